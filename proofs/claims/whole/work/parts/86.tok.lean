/-! ===== LIST: words and numbers ===== -/
def gl_let (c : Nat) : Bool := (Nat.ble 97 c && Nat.ble c 122) || (Nat.ble 65 c && Nat.ble c 90)
def gl_dig (c : Nat) : Bool := Nat.ble 48 c && Nat.ble c 57
def gl_spc (c : Nat) : Bool := Nat.beq c 32
def gl_run (p : Nat → Bool) (bs : Nat → Nat) : Nat → Nat → Nat
  | 0, a => a
  | k + 1, a => bif p (bs a) then gl_run p bs k (a + 1) else a
theorem gl_run_le (p : Nat → Bool) (bs : Nat → Nat) : ∀ k a, a ≤ gl_run p bs k a ∧ gl_run p bs k a ≤ a + k := by
  intro k
  induction k with
  | zero => intro a; exact ⟨Nat.le_refl _, Nat.le_refl _⟩
  | succ k ih =>
    intro a
    rw [gl_run]
    cases p (bs a) with
    | false => exact ⟨Nat.le_refl _, by show a ≤ _; omega⟩
    | true =>
      have := ih (a + 1)
      rw [cond_true]
      omega
theorem gl_run_in (p : Nat → Bool) (bs : Nat → Nat) : ∀ k a i, a ≤ i → i < gl_run p bs k a → p (bs i) = true := by
  intro k
  induction k with
  | zero => intro a i h1 h2; rw [gl_run] at h2; omega
  | succ k ih =>
    intro a i h1 h2
    rw [gl_run] at h2
    cases e : p (bs a) with
    | false => rw [e, cond_false] at h2; omega
    | true =>
      rw [e, cond_true] at h2
      by_cases q : i = a
      · rw [q]; exact e
      · exact ih (a + 1) i (by omega) h2
theorem gl_run_s {p : Nat → Bool} {bs : Nat → Nat} {k a : Nat} (hk : 0 < k) (h : p (bs a) = true) : a < gl_run p bs k a := by
  obtain ⟨k, rfl⟩ : ∃ q, k = q + 1 := ⟨k - 1, by omega⟩
  rw [gl_run, h, cond_true]
  have := (gl_run_le p bs k (a + 1)).1
  omega
section GlTok
variable (n : Nat) (bs : Nat → Nat) (a : Nat)
def gl_s : Nat := gl_run gl_spc bs (n - a) a
def gl_k : Nat := if n ≤ gl_s n bs a then 0 else if gl_let (bs (gl_s n bs a)) = true then 2 else if gl_dig (bs (gl_s n bs a)) = true then 3 else if bs (gl_s n bs a) = 59 then 4 else 1
def gl_e : Nat := if n ≤ gl_s n bs a then gl_s n bs a else if gl_let (bs (gl_s n bs a)) = true then gl_run gl_let bs (n - gl_s n bs a) (gl_s n bs a) else if gl_dig (bs (gl_s n bs a)) = true then gl_run gl_dig bs (n - gl_s n bs a) (gl_s n bs a) else gl_s n bs a + 1
end GlTok
def gl_vC (bs : Nat → Nat) : Nat → Nat → Nat → Nat
  | 0, _, v => v
  | k + 1, p, v => gl_vC bs k (p + 1) (min 1000000 (v * 10 + bs p - 48))
def gl_vR (bs : Nat → Nat) : Nat → Nat → Nat → Nat
  | 0, _, v => v
  | k + 1, p, v => gl_vR bs k (p + 1) (if 99999 < v then v else 10 * v + bs p - 48)
def gl_eqv (v v' : Nat) : Prop := (v = v' ∧ v ≤ 99999) ∨ (99999 < v ∧ 99999 < v')
theorem gl_vrel {bs : Nat → Nat} : ∀ k p v v', (∀ i, p ≤ i → i < p + k → gl_dig (bs i) = true) → gl_eqv v v' → v ≤ 1000000 → v' ≤ 1000000 → gl_eqv (gl_vC bs k p v) (gl_vR bs k p v') ∧ gl_vC bs k p v ≤ 1000000 ∧ gl_vR bs k p v' ≤ 1000000 := by
  intro k
  induction k with
  | zero => intro p v v' _ h h1 h2; exact ⟨h, h1, h2⟩
  | succ k ih =>
    intro p v v' hd h h1 h2
    have hdp := hd p (Nat.le_refl _) (by omega)
    unfold gl_dig at hdp
    rw [Bool.and_eq_true, Nat.ble_eq, Nat.ble_eq] at hdp
    rw [gl_vC, gl_vR]
    refine ih (p + 1) _ _ (fun i a1 a2 => hd i (by omega) (by omega)) ?_ (by omega) ?_
    · unfold gl_eqv at h ⊢
      rcases h with ⟨rfl, hv⟩ | ⟨ha, hb⟩
      · rw [if_neg (by omega)]
        omega
      · rw [if_pos hb]
        omega
    · split <;> omega
def gl_h (bs : Nat → Nat) : Nat → Nat → Nat → Nat → Nat
  | 0, _, _, v => v
  | k + 1, p, i, v => gl_h bs k (p + 1) (i + 1) (if i < 8 then 64 * v + bs p - 64 else v)
/-- a word: 0 price, 1 dock, 2 another -/
def gl_wd (bs : Nat → Nat) (s e : Nat) : Nat :=
  if e - s = 5 ∧ bs s = 112 ∧ bs (s + 1) = 114 ∧ bs (s + 2) = 105 ∧ bs (s + 3) = 99 ∧ bs (s + 4) = 101 then 0
  else if e - s = 4 ∧ bs s = 100 ∧ bs (s + 1) = 111 ∧ bs (s + 2) = 99 ∧ bs (s + 3) = 107 then 1 else 2
def gl_wo (v : Nat) : Nat := if v = 818583781 then 0 else if v = 9631979 then 1 else 2
theorem gl_let_b {c : Nat} (h : gl_let c = true) : 65 ≤ c ∧ c ≤ 122 := by
  unfold gl_let at h
  simp only [Bool.or_eq_true, Bool.and_eq_true, Nat.ble_eq] at h
  omega
theorem gl_word {bs : Nat → Nat} {s e : Nat} (h1 : s < e) (h5 : e - s ≤ 5) (hl : ∀ i, s ≤ i → i < e → gl_let (bs i) = true) : gl_wo (gl_h bs (e - s) s 0 0) = gl_wd bs s e ∧ gl_h bs (e - s) s 0 0 < 1073741824 := by
  have b : ∀ i, s ≤ i → i < e → 65 ≤ bs i ∧ bs i ≤ 122 := fun i h1 h2 => gl_let_b (hl i h1 h2)
  have hL : e - s = 1 ∨ e - s = 2 ∨ e - s = 3 ∨ e - s = 4 ∨ e - s = 5 := by omega
  unfold gl_wo gl_wd
  rcases hL with h | h | h | h | h
  · have b0 := b s (by omega) (by omega)
    have hv : gl_h bs 1 s 0 0 = 64 * 0 + bs s - 64 := rfl
    rw [h]
    generalize gl_h bs 1 s 0 0 = H at hv ⊢
    rw [if_neg (by omega), if_neg (by omega), if_neg (by omega), if_neg (by omega)]
    exact ⟨rfl, by omega⟩
  · have b0 := b s (by omega) (by omega)
    have b1 := b (s + 1) (by omega) (by omega)
    have hv : gl_h bs 2 s 0 0 = 64 * (64 * 0 + bs s - 64) + bs (s + 1) - 64 := rfl
    rw [h]
    generalize gl_h bs 2 s 0 0 = H at hv ⊢
    rw [if_neg (by omega), if_neg (by omega), if_neg (by omega), if_neg (by omega)]
    exact ⟨rfl, by omega⟩
  · have b0 := b s (by omega) (by omega)
    have b1 := b (s + 1) (by omega) (by omega)
    have b2 := b (s + 2) (by omega) (by omega)
    have hv : gl_h bs 3 s 0 0 = 64 * (64 * (64 * 0 + bs s - 64) + bs (s + 1) - 64) + bs (s + 2) - 64 := rfl
    rw [h]
    generalize gl_h bs 3 s 0 0 = H at hv ⊢
    rw [if_neg (by omega), if_neg (by omega), if_neg (by omega), if_neg (by omega)]
    exact ⟨rfl, by omega⟩
  · have b0 := b s (by omega) (by omega)
    have b1 := b (s + 1) (by omega) (by omega)
    have b2 := b (s + 2) (by omega) (by omega)
    have b3 := b (s + 3) (by omega) (by omega)
    have hv : gl_h bs 4 s 0 0 = 64 * (64 * (64 * (64 * 0 + bs s - 64) + bs (s + 1) - 64) + bs (s + 2) - 64) + bs (s + 3) - 64 := rfl
    rw [h]
    generalize gl_h bs 4 s 0 0 = H at hv ⊢
    refine ⟨?_, by omega⟩
    rw [if_neg (show ¬ H = 818583781 by omega), if_neg (show ¬ (4 = 5 ∧ bs s = 112 ∧ bs (s + 1) = 114 ∧ bs (s + 2) = 105 ∧ bs (s + 3) = 99 ∧ bs (s + 4) = 101) by omega)]
    by_cases q : bs s = 100 ∧ bs (s + 1) = 111 ∧ bs (s + 2) = 99 ∧ bs (s + 3) = 107
    · rw [if_pos (show H = 9631979 by omega), if_pos ⟨rfl, q⟩]
    · rw [if_neg (show ¬ H = 9631979 by omega), if_neg (fun w => q w.2)]
  · have b0 := b s (by omega) (by omega)
    have b1 := b (s + 1) (by omega) (by omega)
    have b2 := b (s + 2) (by omega) (by omega)
    have b3 := b (s + 3) (by omega) (by omega)
    have b4 := b (s + 4) (by omega) (by omega)
    have hv : gl_h bs 5 s 0 0 = 64 * (64 * (64 * (64 * (64 * 0 + bs s - 64) + bs (s + 1) - 64) + bs (s + 2) - 64) + bs (s + 3) - 64) + bs (s + 4) - 64 := rfl
    rw [h]
    generalize gl_h bs 5 s 0 0 = H at hv ⊢
    refine ⟨?_, by omega⟩
    by_cases q : bs s = 112 ∧ bs (s + 1) = 114 ∧ bs (s + 2) = 105 ∧ bs (s + 3) = 99 ∧ bs (s + 4) = 101
    · rw [if_pos (show H = 818583781 by omega), if_pos ⟨rfl, q⟩]
    · rw [if_neg (show ¬ H = 818583781 by omega), if_neg (show ¬ H = 9631979 by omega), if_neg (fun w => q w.2), if_neg (show ¬ (5 = 4 ∧ bs s = 100 ∧ bs (s + 1) = 111 ∧ bs (s + 2) = 99 ∧ bs (s + 3) = 107) by omega)]
section GlC
variable {n : Nat} {bs : Nat → Nat} (N : Nat)
theorem gl_rgn {c lo hi : Nat} (hc : c < 2 ^ 31) : gh_rg (nI c).toInt lo hi = (Nat.ble lo c && Nat.ble c hi) := by
  rw [nI_toInt hc]
  unfold gh_rg
  cases e1 : Nat.ble lo c with
  | false =>
    have : ¬ lo ≤ c := fun w => by rw [Nat.ble_eq.mpr w] at e1; cases e1
    exact decide_eq_false (by omega)
  | true =>
    have h1 := Nat.ble_eq.mp e1
    cases e2 : Nat.ble c hi with
    | false =>
      have : ¬ c ≤ hi := fun w => by rw [Nat.ble_eq.mpr w] at e2; cases e2
      exact decide_eq_false (by omega)
    | true =>
      have h2 := Nat.ble_eq.mp e2
      exact decide_eq_true (by omega)
theorem gl_rgs {c lo hi : Nat} (hc : c < 256) (h1 : hi ≤ 127) : gh_rg (gt_sb c).toInt lo hi = (Nat.ble lo c && Nat.ble c hi) := by
  rw [← gl_rgn (by omega), gt_sb_toInt hc, nI_toInt (by omega)]
  unfold gh_rg
  refine decide_eq_decide.mpr ?_
  split <;> omega
theorem gl_isLetC (c : Nat) (hc : c < 256) (S : gh_St) : sX6_isLetter N (nI c) S = some (gq_B (gl_let c), S) := by
  unfold sX6_isLetter sX6_isLetter_22 gl_let
  have e1 := gl_rgn (c := c) (lo := 97) (hi := 122) (by omega)
  have e2 := gl_rgn (c := c) (lo := 65) (hi := 90) (by omega)
  have e1' : gh_rg (nI c).toInt (Int32.toInt 97) (Int32.toInt 122) = (Nat.ble 97 c && Nat.ble c 122) := e1
  have e2' : gh_rg (nI c).toInt (Int32.toInt 65) (Int32.toInt 90) = (Nat.ble 65 c && Nat.ble c 90) := e2
  simp only [gh_within, gq_bs, e1', e2', gq_B_ne, gq_B_eq]
  cases Nat.ble 97 c && Nat.ble c 122 <;> cases Nat.ble 65 c && Nat.ble c 90 <;> rfl
theorem gl_isDigC (c : Nat) (hc : c < 256) (S : gh_St) : sX6_isDigit N (nI c) S = some (gq_B (gl_dig c), S) := by
  unfold sX6_isDigit gl_dig
  have e1 := gl_rgn (c := c) (lo := 48) (hi := 57) (by omega)
  have e1' : gh_rg (nI c).toInt (Int32.toInt 48) (Int32.toInt 57) = (Nat.ble 48 c && Nat.ble c 57) := e1
  simp only [gh_within, gq_bs, e1', gq_B_gB]
theorem gl_isLetR (c : Nat) (hc : c < 256) (S : gh_St) : sX10_isLetter N (gt_sb c) S = some (gq_B (gl_let c), S) := by
  unfold sX10_isLetter sX10_isLetter_28 gl_let
  have e1 := gl_rgs (c := c) (lo := 97) (hi := 122) hc (by omega)
  have e2 := gl_rgs (c := c) (lo := 65) (hi := 90) hc (by omega)
  have e1' : gh_rg (gt_sb c).toInt (Int64.toInt 97) (Int64.toInt 122) = (Nat.ble 97 c && Nat.ble c 122) := e1
  have e2' : gh_rg (gt_sb c).toInt (Int64.toInt 65) (Int64.toInt 90) = (Nat.ble 65 c && Nat.ble c 90) := e2
  simp only [gh_inR, gq_bs, Int32.toInt_toInt64, e1', e2', gq_B_ne, gq_B_eq]
  cases Nat.ble 97 c && Nat.ble c 122 <;> cases Nat.ble 65 c && Nat.ble c 90 <;> rfl
theorem gl_isDigR (c : Nat) (hc : c < 256) (S : gh_St) : sX10_in N ((gt_sb c).toInt64) 48 57 S = some (gq_B (gl_dig c), S) := by
  unfold gl_dig
  have e1 := gl_rgs (c := c) (lo := 48) (hi := 57) hc (by omega)
  have e1' : gh_rg (gt_sb c).toInt (Int64.toInt 48) (Int64.toInt 57) = (Nat.ble 48 c && Nat.ble c 57) := e1
  rw [gh_inR, Int32.toInt_toInt64, e1']
theorem gl_sb_eq {c d : Nat} (hc : c < 256) (hd : d < 128) : gh_cmp .ne (gt_sb c) (nI d) = !Nat.beq c d := by
  rw [gh_c_ne, gt_sb_toInt hc, nI_toInt (by omega)]
  cases e : Nat.beq c d with
  | true =>
    have := Nat.eq_of_beq_eq_true e
    refine decide_eq_false (not_not_intro ?_)
    rw [if_pos (by omega)]
    omega
  | false =>
    have : c ≠ d := fun w => by rw [w, Nat.beq_refl] at e; cases e
    refine decide_eq_true ?_
    split <;> omega
theorem gl_n_beq {c d : Nat} (hc : c < 2 ^ 31) (hd : d < 2 ^ 31) : gh_cmp .ne (nI c) (nI d) = !Nat.beq c d := by
  rw [gh_n_ne hc hd]
  cases e : Nat.beq c d with
  | true => exact decide_eq_false (not_not_intro (Nat.eq_of_beq_eq_true e))
  | false => exact decide_eq_true (fun w => by rw [w, Nat.beq_refl] at e; cases e)
def gl_C3 (c k : Nat) : Bool := Nat.beq c 45 && Nat.beq k 3
def gl_CN (c k : Nat) : Bool := Nat.beq c 45 && (Nat.ble 3 k && Nat.ble k 6)
theorem gl_CN_C3 : ∀ c k, gl_C3 c k = true → gl_CN c k = true := by
  intro c k h
  unfold gl_C3 at h
  unfold gl_CN
  simp only [Bool.and_eq_true, Nat.beq_eq, Nat.ble_eq] at h ⊢
  omega
theorem gt_W_45 {S : gh_St} (h : gt_W S n bs) {k : Nat} {x : Int32} : gt_W (gh_fI S 45 k x) n bs := ⟨by rw [gh_fI_1, if_neg (by omega)]; exact h.1, fun j hj => by rw [gh_fI_1, if_neg (by omega)]; exact h.2 j hj⟩
theorem gl_spC (hn : n ≤ 200) (hb : ∀ k, bs k < 256) : ∀ (k a fu : Nat) (S : gh_St), a + k = n → k < fu → gt_W S n bs → S.1 45 3 = nI a → ∃ S', sX6_next_0h N fu S = sX6_next_38 N S' ∧ S'.1 45 3 = nI (gl_run gl_spc bs k a) ∧ gt_W S' n bs ∧ gh_fr gl_C3 S S' := by
  intro k
  induction k with
  | zero =>
    intro a fu S hk hfu hW h3
    obtain ⟨fu, rfl⟩ : ∃ q, fu = q + 1 := ⟨fu - 1, by omega⟩
    rw [sX6_next_0h, h3, hW.1, gh_n_ge (by omega) (by omega), decide_eq_true (by omega), cond_true]
    exact ⟨S, rfl, h3, hW, gh_fr_refl _ _⟩
  | succ k ih =>
    intro a fu S hk hfu hW h3
    obtain ⟨fu, rfl⟩ : ∃ q, fu = q + 1 := ⟨fu - 1, by omega⟩
    have hba := hb a
    rw [sX6_next_0h, h3, hW.1, gh_n_ge (by omega) (by omega), decide_eq_false (by omega), cond_false, gh_ra_n (by omega) (by decide), gq_bs, hW.2 a (by omega), show (32 : Int32) = nI 32 from rfl, gl_n_beq (by omega) (by omega), gl_run]
    show ∃ S', (bif !gl_spc (bs a) then _ else _) = _ ∧ _
    cases gl_spc (bs a) with
    | false => exact ⟨S, rfl, h3, hW, gh_fr_refl _ _⟩
    | true =>
      rw [Bool.not_true, cond_false, cond_true, nI_1]
      obtain ⟨S', a1, a2, a3, a4⟩ := ih (a + 1) fu (gh_fI S 45 3 (nI (a + 1))) (by omega) (by omega) (gt_W_45 hW) (by rw [gh_fI_1, if_pos ⟨rfl, rfl⟩])
      exact ⟨S', a1, a2, a3, gh_fr_trans (gh_fr_fI (gh_fr_refl _ _) rfl) a4⟩
theorem gl_ltC (hn : n ≤ 200) (hb : ∀ k, bs k < 256) : ∀ (k a fu : Nat) (S : gh_St), a + k = n → k < fu → gt_W S n bs → S.1 45 3 = nI a → ∃ S', sX6_next_85 N fu S = some S' ∧ S'.1 45 3 = nI (gl_run gl_let bs k a) ∧ gh_fr gl_C3 S S' := by
  intro k
  induction k with
  | zero =>
    intro a fu S hk hfu hW h3
    obtain ⟨fu, rfl⟩ : ∃ q, fu = q + 1 := ⟨fu - 1, by omega⟩
    rw [sX6_next_85, h3, hW.1, gh_n_ge (by omega) (by omega), decide_eq_true (by omega), cond_true]
    exact ⟨S, rfl, h3, gh_fr_refl _ _⟩
  | succ k ih =>
    intro a fu S hk hfu hW h3
    obtain ⟨fu, rfl⟩ : ∃ q, fu = q + 1 := ⟨fu - 1, by omega⟩
    rw [sX6_next_85, h3, hW.1, gh_n_ge (by omega) (by omega), decide_eq_false (by omega), cond_false, gh_ra_n (by omega) (by decide), gq_bs, hW.2 a (by omega), gl_isLetC N _ (hb a), gq_bs, gl_run]
    show ∃ S', (bif gh_cmp .eq (gq_B (gl_let (bs a))) 0 then some S else sX6_next_85 N fu (gh_fI S 45 3 (S.1 45 3 + 1))) = _ ∧ _
    rw [gq_B_eq]
    cases gl_let (bs a) with
    | false => exact ⟨S, rfl, h3, gh_fr_refl _ _⟩
    | true =>
      rw [Bool.not_true, cond_false, cond_true, h3, nI_1]
      obtain ⟨S', a1, a2, a4⟩ := ih (a + 1) fu (gh_fI S 45 3 (nI (a + 1))) (by omega) (by omega) (gt_W_45 hW) (by rw [gh_fI_1, if_pos ⟨rfl, rfl⟩])
      exact ⟨S', a1, a2, gh_fr_trans (gh_fr_fI (gh_fr_refl _ _) rfl) a4⟩
theorem gl_nmC (hn : n ≤ 200) (hb : ∀ k, bs k < 256) : ∀ (k a fu : Nat) (S : gh_St) (v : Nat), a + k = n → k < fu → gt_W S n bs → S.1 45 3 = nI a → S.1 45 6 = nI v → v ≤ 1000000 → ∃ S', sX6_readNumber_5 N fu S = some S' ∧ S'.1 45 3 = nI (gl_run gl_dig bs k a) ∧ S'.1 45 6 = nI (gl_vC bs (gl_run gl_dig bs k a - a) a v) ∧ gh_fr gl_CN S S' ∧ S'.1 45 4 = S.1 45 4 ∧ S'.1 45 5 = S.1 45 5 := by
  intro k
  induction k with
  | zero =>
    intro a fu S v hk hfu hW h3 h6 hv
    obtain ⟨fu, rfl⟩ : ∃ q, fu = q + 1 := ⟨fu - 1, by omega⟩
    rw [sX6_readNumber_5, h3, hW.1, gh_n_ge (by omega) (by omega), decide_eq_true (by omega), cond_true]
    refine ⟨S, rfl, h3, ?_, gh_fr_refl _ _, rfl, rfl⟩
    rw [gl_run, Nat.sub_self]
    exact h6
  | succ k ih =>
    intro a fu S v hk hfu hW h3 h6 hv
    obtain ⟨fu, rfl⟩ : ∃ q, fu = q + 1 := ⟨fu - 1, by omega⟩
    have hba := hb a
    rw [sX6_readNumber_5, h3, hW.1, gh_n_ge (by omega) (by omega), decide_eq_false (by omega), cond_false, gh_ra_n (by omega) (by decide), gq_bs, hW.2 a (by omega), gl_isDigC N _ (hb a), gq_bs, gl_run]
    show ∃ S', (bif gh_cmp .eq (gq_B (gl_dig (bs a))) 0 then some S else ((gh_ra S 44 200 (S.1 45 3)).bind fun x3 => sX6_readNumber_5 N fu (gh_fI (gh_fI S 45 6 (gh_min 1000000 (((S.1 45 6 * 10) + x3) - 48))) 45 3 (((gh_fI S 45 6 (gh_min 1000000 (((S.1 45 6 * 10) + x3) - 48))).1 45 3) + 1)))) = _ ∧ _
    rw [gq_B_eq]
    cases hd : gl_dig (bs a) with
    | false =>
      refine ⟨S, rfl, h3, ?_, gh_fr_refl _ _, rfl, rfl⟩
      rw [cond_false, Nat.sub_self]
      exact h6
    | true =>
      have hdp := hd
      unfold gl_dig at hdp
      rw [Bool.and_eq_true, Nat.ble_eq, Nat.ble_eq] at hdp
      have em : gh_min 1000000 (((nI v * 10) + nI (bs a)) - 48) = nI (min 1000000 (v * 10 + bs a - 48)) := by
        rw [show (10 : Int32) = nI 10 from rfl, show (48 : Int32) = nI 48 from rfl, show (1000000 : Int32) = nI 1000000 from rfl, pk_mul, nI_add, pk_sub (by omega), gq_min_n (by omega) (by omega)]
      have e3 : ∀ x : Int32, (gh_fI S 45 6 x).1 45 3 = nI a := fun x => by rw [gh_fI_1, if_neg (by omega)]; exact h3
      rw [Bool.not_true, cond_false, cond_true, h3, gh_ra_n (by omega) (by decide), gq_bs, hW.2 a (by omega), h6, em, e3, nI_1]
      obtain ⟨S', a1, a2, a3, a4, a5, a6⟩ := ih (a + 1) fu (gh_fI (gh_fI S 45 6 (nI (min 1000000 (v * 10 + bs a - 48)))) 45 3 (nI (a + 1))) (min 1000000 (v * 10 + bs a - 48)) (by omega) (by omega) (gt_W_45 (gt_W_45 hW)) (by rw [gh_fI_1, if_pos ⟨rfl, rfl⟩]) (by rw [gh_fI_1, if_neg (by omega), gh_fI_1, if_pos ⟨rfl, rfl⟩]) (by omega)
      have hle := (gl_run_le gl_dig bs k (a + 1)).1
      refine ⟨S', a1, a2, ?_, gh_fr_trans (gh_fr_fI (gh_fr_fI (gh_fr_refl _ _) rfl) rfl) a4, ?_, ?_⟩
      · rw [a3, show gl_run gl_dig bs k (a + 1) - a = (gl_run gl_dig bs k (a + 1) - (a + 1)) + 1 by omega, gl_vC]
      · rw [a5, gh_fI_1, if_neg (by omega), gh_fI_1, if_neg (by omega)]
      · rw [a6, gh_fI_1, if_neg (by omega), gh_fI_1, if_neg (by omega)]
theorem gl_nextC (hN : 300 ≤ N) (hn : n ≤ 200) (hb : ∀ k, bs k < 256) {S : gh_St} {a : Nat} (ha : a ≤ n) (hW : gt_W S n bs) (h3 : S.1 45 3 = nI a) : ∃ S', sX6_next N S = some S' ∧ S'.1 45 3 = nI (gl_e n bs a) ∧ S'.1 45 4 = nI (gl_s n bs a) ∧ S'.1 45 5 = nI (gl_k n bs a) ∧ (gl_k n bs a = 3 → S'.1 45 6 = nI (gl_vC bs (gl_e n bs a - gl_s n bs a) (gl_s n bs a) 0)) ∧ gh_fr gl_CN S S' := by
  obtain ⟨S1, a1, a2, a3, a4⟩ := gl_spC (n := n) (bs := bs) N hn hb (n - a) a N S (by omega) (by omega) hW h3
  have hsl := gl_run_le gl_spc bs (n - a) a
  have hs : gl_run gl_spc bs (n - a) a = gl_s n bs a := rfl
  rw [hs] at a2 hsl
  unfold sX6_next
  rw [a1]
  unfold sX6_next_38
  have f1 : gh_fr gl_CN S (gh_fI S1 45 4 (nI (gl_s n bs a))) := gh_fr_fI (gh_fr_mono a4 gl_CN_C3) rfl
  have hW1 : gt_W (gh_fI S1 45 4 (nI (gl_s n bs a))) n bs := gt_W_45 a3
  have e3 : (gh_fI S1 45 4 (nI (gl_s n bs a))).1 45 3 = nI (gl_s n bs a) := by rw [gh_fI_1, if_neg (by omega)]; exact a2
  rw [a2]
  have e4 : (gh_fI S1 45 4 (nI (gl_s n bs a))).1 45 4 = nI (gl_s n bs a) := by rw [gh_fI_1, if_pos ⟨rfl, rfl⟩]
  generalize gh_fI S1 45 4 (nI (gl_s n bs a)) = T at f1 hW1 e3 e4 ⊢
  rw [e3, hW1.1, gh_n_lt (by omega) (by omega)]
  unfold gl_k gl_e
  generalize gl_s n bs a = s at hsl e3 e4 ⊢
  by_cases c0 : n ≤ s
  · rw [decide_eq_false (by omega), cond_false]
    simp only [if_pos c0]
    refine ⟨gh_fI T 45 5 0, rfl, by rw [gh_fI_1, if_neg (by omega)]; exact e3, by rw [gh_fI_1, if_neg (by omega)]; exact e4, by rw [gh_fI_1, if_pos ⟨rfl, rfl⟩]; rfl, fun h => by omega, gh_fr_fI f1 rfl⟩
  · rw [decide_eq_true (by omega), cond_true, gh_ra_n (by omega) (by decide), gq_bs, hW1.2 s (by omega), gl_isLetC N _ (hb s), gq_bs]
    simp only [if_neg c0]
    rw [gq_B_eq]
    cases hl : gl_let (bs s) with
    | true =>
      simp only [if_true]
      rw [Bool.not_true, cond_false]
      obtain ⟨S', b1, b2, b3⟩ := gl_ltC (n := n) (bs := bs) N hn hb (n - s) s N (gh_fI T 45 5 2) (by omega) (by omega) (gt_W_45 hW1) (by rw [gh_fI_1, if_neg (by omega)]; exact e3)
      refine ⟨S', b1, b2, ?_, ?_, fun h => by omega, gh_fr_trans (gh_fr_fI f1 rfl) (gh_fr_mono b3 gl_CN_C3)⟩
      · rw [b3.1 45 4 rfl, gh_fI_1, if_neg (by omega)]; exact e4
      · rw [b3.1 45 5 rfl, gh_fI_1, if_pos ⟨rfl, rfl⟩]; rfl
    | false =>
      simp only [Bool.false_eq_true, if_false]
      rw [Bool.not_false, cond_true, e3, gh_ra_n (by omega) (by decide), gq_bs, hW1.2 s (by omega), gl_isDigC N _ (hb s), gq_bs]
      show ∃ S', (bif gh_cmp .eq (gq_B (gl_dig (bs s))) 0 then ((gh_ra T 44 200 (T.1 45 3)).bind fun x5 => bif gh_cmp .ne x5 59 then sX6_next_172 N 1 T else sX6_next_172 N 4 T) else ((sX6_readNumber N (gh_fI T 45 5 3)).bind fun q7 => some q7)) = _ ∧ _
      rw [gq_B_eq]
      cases hd : gl_dig (bs s) with
      | true =>
        simp only [if_true]
        rw [Bool.not_true, cond_false]
        obtain ⟨S', b1, b2, b3, b4, b5, b6⟩ := gl_nmC (n := n) (bs := bs) N hn hb (n - s) s N (gh_fI (gh_fI T 45 5 3) 45 6 0) 0 (by omega) (by omega) (gt_W_45 (gt_W_45 hW1)) (by rw [gh_fI_1, if_neg (by omega), gh_fI_1, if_neg (by omega)]; exact e3) (by rw [gh_fI_1, if_pos ⟨rfl, rfl⟩]; rfl) (by omega)
        have b1' : sX6_readNumber N (gh_fI T 45 5 3) = some S' := b1
        rw [b1', gq_bs]
        refine ⟨S', rfl, b2, ?_, ?_, fun _ => b3, gh_fr_trans (gh_fr_fI (gh_fr_fI f1 rfl) rfl) b4⟩
        · rw [b5, gh_fI_1, if_neg (by omega), gh_fI_1, if_neg (by omega)]; exact e4
        · rw [b6, gh_fI_1, if_neg (by omega), gh_fI_1, if_pos ⟨rfl, rfl⟩]; rfl
      | false =>
        simp only [Bool.false_eq_true, if_false]
        have hbs := hb s
        rw [Bool.not_false, cond_true, e3, gh_ra_n (by omega) (by decide), gq_bs, hW1.2 s (by omega), show (59 : Int32) = nI 59 from rfl, gh_n_ne (by omega) (by omega)]
        have go : ∀ x : Nat, x ≠ 3 → ∃ S', sX6_next_172 N (nI x) T = some S' ∧ S'.1 45 3 = nI (s + 1) ∧ S'.1 45 4 = nI s ∧ S'.1 45 5 = nI x ∧ gh_fr gl_CN S S' := by
          intro x hx
          have e33 : (gh_fI T 45 5 (nI x)).1 45 3 = nI s := by rw [gh_fI_1, if_neg (by omega)]; exact e3
          refine ⟨gh_fI (gh_fI T 45 5 (nI x)) 45 3 (nI (s + 1)), ?_, by rw [gh_fI_1, if_pos ⟨rfl, rfl⟩], ?_, ?_, gh_fr_fI (gh_fr_fI f1 rfl) rfl⟩
          · unfold sX6_next_172
            rw [e33, nI_1]
          · rw [gh_fI_1, if_neg (by omega), gh_fI_1, if_neg (by omega)]; exact e4
          · rw [gh_fI_1, if_neg (by omega), gh_fI_1, if_pos ⟨rfl, rfl⟩]
        by_cases c59 : bs s = 59
        · rw [decide_eq_false (not_not_intro c59), cond_false]
          simp only [if_pos c59]
          obtain ⟨S', b1, b2, b3, b4, b5⟩ := go 4 (by omega)
          exact ⟨S', b1, b2, b3, b4, fun h => by omega, b5⟩
        · rw [decide_eq_true c59, cond_true]
          simp only [if_neg c59]
          obtain ⟨S', b1, b2, b3, b4, b5⟩ := go 1 (by omega)
          exact ⟨S', b1, b2, b3, b4, fun h => by omega, b5⟩
end GlC
