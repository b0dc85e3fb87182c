/-! ===== LIST: the class reads ===== -/
section GlRc
variable {n : Nat} {bs : Nat → Nat} {b : Bool} (N : Nat)
def gl_outC (n : Nat) (bs : Nat → Nat) (b : Bool) (S S' : gh_St) (m : Option (Int32 × gh_St)) (r : Sum (Nat × Nat) (Nat × gl_PP)) : Prop :=
  (match r with
    | .inl (f, p) => m = some (-1, S') ∧ S'.1 45 1 = nI f ∧ S'.1 45 2 = nI p
    | .inr (c, P') => m = some (nI c, S') ∧ c ≤ 1000 ∧ S'.1 45 1 = 0 ∧ S'.1 45 2 = -1 ∧ gl_LC S' b P') ∧ S'.1 45 0 = 1 ∧ gh_fr (gl_CK b) S S'
theorem gl_f1v {a : Nat} {dk : Bool} {P : gl_PP} (h : gl_f1 n bs a dk P = 0) : gl_k n bs a = 3 ∧ gl_val n bs a ≤ (bif dk then 400 else 3) ∧ gl_tw P dk (gl_val n bs a) = false := by
  unfold gl_f1 at h
  by_cases c3 : gl_k n bs a = 3
  · rw [if_pos c3] at h
    by_cases ct : gl_tw P dk (gl_val n bs a) = true
    · rw [if_pos ct] at h
      omega
    · rw [if_neg ct] at h
      by_cases cv : gl_val n bs a ≤ (bif dk then 400 else 3)
      · exact ⟨c3, cv, gf_bf ct⟩
      · rw [if_neg cv] at h
        omega
  · rw [if_neg c3] at h
    omega
theorem gl_f2v {a : Nat} {dk : Bool} (h : gl_f2 n bs a dk = 0) : gl_k n bs a = 3 ∧ (bif dk then 1 else 0) ≤ gl_val n bs a ∧ gl_val n bs a ≤ (bif dk then 50 else 9999) := by
  unfold gl_f2 at h
  by_cases c3 : gl_k n bs a = 3
  · rw [if_pos c3] at h
    by_cases cv : (bif dk then 1 else 0) ≤ gl_val n bs a ∧ gl_val n bs a ≤ (bif dk then 50 else 9999)
    · exact ⟨c3, cv⟩
    · rw [if_neg cv] at h
      omega
  · rw [if_neg c3] at h
    omega
theorem gl_f3v {a : Nat} (h : gl_f3 n bs a = 0) : gl_k n bs a = 4 := by
  unfold gl_f3 at h
  by_cases c4 : gl_k n bs a = 4
  · exact c4
  · rw [if_neg c4] at h
    omega
theorem gl_f0v {a : Nat} {P : gl_PP} (h : gl_f0 n bs a P = 0) : gl_k n bs a = 2 ∧ (gl_wda n bs a = 0 ∨ (gl_wda n bs a = 1 ∧ P.2.1 < 8)) := by
  unfold gl_f0 at h
  by_cases c1 : gl_k n bs a = 2 ∧ gl_wda n bs a = 1
  · rw [if_pos c1] at h
    by_cases c8 : P.2.1 < 8
    · exact ⟨c1.1, Or.inr ⟨c1.2, c8⟩⟩
    · rw [if_neg c8] at h
      omega
  · rw [if_neg c1] at h
    by_cases c0 : gl_k n bs a = 2 ∧ gl_wda n bs a = 0
    · exact ⟨c0.1, Or.inl c0.2⟩
    · rw [if_neg c0] at h
      omega
theorem gl_f0_le {a : Nat} {P : gl_PP} : gl_f0 n bs a P ≤ 4 := by
  unfold gl_f0
  split
  · split <;> omega
  · split <;> omega
theorem gl_f1_le {a : Nat} {dk : Bool} {P : gl_PP} : gl_f1 n bs a dk P ≤ 4 := by
  unfold gl_f1
  split
  · split
    · omega
    · split <;> omega
  · omega
theorem gl_f2_le {a : Nat} {dk : Bool} : gl_f2 n bs a dk ≤ 4 := by
  unfold gl_f2
  split
  · split <;> omega
  · omega
theorem gl_f3_le {a : Nat} : gl_f3 n bs a ≤ 4 := by
  unfold gl_f3
  split <;> omega
theorem gl_rd (hN : 300 ≤ N) (hn : n ≤ 200) (hb : ∀ k, bs k < 256) : ∀ (k a t fu cl : Nat) (P : gl_PP) (S : gh_St) (dk : Bool) (f : Nat), n - a < k → n - a + 1 < fu → t ≤ a → a ≤ n → cl + (n - a) ≤ 400 → gl_CS S n bs a 0 cl b P dk f → ∃ S', gl_outC n bs b S S' (sX6_read_36 N b fu (nI t) S) (gl_parse n bs k a cl P) := by
  intro k
  induction k with
  | zero => intro a t fu cl P S dk f h; omega
  | succ k ih =>
    intro a t fu cl P S dk f hk hfu ht ha hcl hS
    obtain ⟨fu, rfl⟩ : ∃ q, fu = q + 1 := ⟨fu - 1, by omega⟩
    rw [gl_parse]
    by_cases c0 : gl_k n bs a = 0
    · rw [if_pos c0]
      obtain ⟨S1, a1, a2, a3⟩ := gl_turn0 (n := n) (bs := bs) N hN hn hb ha hS
      refine ⟨S1, ⟨?_, by omega, a2.1.2.2.2.2.2.1, a2.1.2.2.2.2.2.2.1, a2.1.2.2.2.2.2.2.2.1⟩, a2.1.2.2.2.2.1, a3⟩
      rw [sX6_read_36, hS.1.1, gh_n_gt (by omega) (by omega), decide_eq_false (by omega), cond_false, a1, gq_bs, a2.2.2.1, c0, show gh_cmp .ne (nI 0) 0 = false from rfl, cond_false, a2.1.2.2.1, show gh_cmp .ne (nI 0) 0 = false from rfl, cond_false, a2.1.2.2.2.1]
    · rw [if_neg c0]
      have g1 := gl_e_gt (n := n) (bs := bs) c0 ha
      unfold gl_clause
      obtain ⟨S1, a1, a2, a3, a4⟩ := gl_turn (n := n) (bs := bs) N hN hn hb (fu := fu) (t := t) ha (by omega) (by omega) hS (Or.inl c0) gl_f0_le (fun S1 h1 => gl_fh0 N (by omega) hn hb ha h1)
      by_cases f0 : gl_f0 n bs a P ≠ 0
      · rw [if_pos f0]
        obtain ⟨S', b1, b2, b3, b4, b5⟩ := a3 f0
        exact ⟨S', ⟨b1, b2, b3⟩, b4, b5⟩
      rw [if_neg f0]
      have f0' : gl_f0 n bs a P = 0 := by omega
      obtain ⟨S2, b1, b2, b3⟩ := gl_ac0 N (by omega) hn hb ha a1 f0'
      rw [a4 f0', b1, gq_bs]
      have fr2 := gh_fr_trans a2 b3
      obtain ⟨hk2, hwd⟩ := gl_f0v f0'
      generalize hdk : Nat.beq (gl_wda n bs a) 1 = dk' at b2 ⊢
      generalize gl_e n bs a = a1' at g1 b2 ⊢
      obtain ⟨fu, rfl⟩ : ∃ q, fu = q + 1 := ⟨fu - 1, by omega⟩
      obtain ⟨S3, c1, c2, c3, c4⟩ := gl_turn (n := n) (bs := bs) N hN hn hb (fu := fu) (t := t + 1) (by omega) (by omega) (by omega) b2 (Or.inr (by omega)) gl_f1_le (fun S1 h1 => gl_fh1 N (by omega) h1)
      by_cases f1 : gl_f1 n bs a1' dk' P ≠ 0
      · rw [if_pos f1]
        obtain ⟨S', d1, d2, d3, d4, d5⟩ := c3 f1
        exact ⟨S', ⟨d1, d2, d3⟩, d4, gh_fr_trans fr2 d5⟩
      rw [if_neg f1]
      have f1' : gl_f1 n bs a1' dk' P = 0 := by omega
      obtain ⟨S4, d1, d2, d3⟩ := gl_ac1 N c1 f1'
      rw [c4 f1', d1, gq_bs]
      have fr4 := gh_fr_trans fr2 (gh_fr_trans c2 d3)
      obtain ⟨k3, hv1, -⟩ := gl_f1v f1'
      have g2 := gl_e_gt (n := n) (bs := bs) (a := a1') (by omega) (by omega)
      generalize gl_e n bs a1' = a2' at g2 d2 ⊢
      obtain ⟨fu, rfl⟩ : ∃ q, fu = q + 1 := ⟨fu - 1, by omega⟩
      obtain ⟨S5, e1, e2, e3, e4⟩ := gl_turn (n := n) (bs := bs) N hN hn hb (fu := fu) (t := t + 1 + 1) (by omega) (by omega) (by omega) d2 (Or.inr (by omega)) gl_f2_le (fun S1 h1 => gl_fh2 N h1)
      by_cases f2 : gl_f2 n bs a2' dk' ≠ 0
      · rw [if_pos f2]
        obtain ⟨S', x1, x2, x3, x4, x5⟩ := e3 f2
        exact ⟨S', ⟨x1, x2, x3⟩, x4, gh_fr_trans fr4 x5⟩
      rw [if_neg f2]
      have f2' : gl_f2 n bs a2' dk' = 0 := by omega
      obtain ⟨S6, x1, x2, x3⟩ := gl_ac2 N e1 f2' hv1 (fun h => by
        rcases hwd with w | w
        · rw [w] at hdk
          rw [← hdk] at h
          cases h
        · exact w.2)
      rw [e4 f2', x1, gq_bs]
      have fr6 := gh_fr_trans fr4 (gh_fr_trans e2 x3)
      obtain ⟨k4, -⟩ := gl_f2v f2'
      have g3 := gl_e_gt (n := n) (bs := bs) (a := a2') (by omega) (by omega)
      generalize gl_e n bs a2' = a3' at g3 x2 ⊢
      obtain ⟨fu, rfl⟩ : ∃ q, fu = q + 1 := ⟨fu - 1, by omega⟩
      obtain ⟨S7, y1, y2, y3, y4⟩ := gl_turn (n := n) (bs := bs) N hN hn hb (fu := fu) (t := t + 1 + 1 + 1) (by omega) (by omega) (by omega) x2 (Or.inr (by omega)) gl_f3_le (fun S1 h1 => gl_fh3 N h1)
      by_cases f3 : gl_f3 n bs a3' ≠ 0
      · rw [if_pos f3]
        obtain ⟨S', z1, z2, z3, z4, z5⟩ := y3 f3
        exact ⟨S', ⟨z1, z2, z3⟩, z4, gh_fr_trans fr6 z5⟩
      rw [if_neg f3]
      have f3' : gl_f3 n bs a3' = 0 := by omega
      obtain ⟨S8, z1, z2, z3⟩ := gl_ac3 N y1
      rw [y4 f3', z1, gq_bs]
      have fr8 := gh_fr_trans fr6 (gh_fr_trans y2 z3)
      have k5 := gl_f3v f3'
      have g4 := gl_e_gt (n := n) (bs := bs) (a := a3') (by omega) (by omega)
      obtain ⟨S', w1, w2, w3⟩ := ih (gl_e n bs a3') (t + 1 + 1 + 1 + 1) fu (cl + 1) _ S8 _ _ (by omega) (by omega) (by omega) (by omega) (by omega) z2
      exact ⟨S', w1, w2, gh_fr_trans fr8 w3⟩
theorem gl_clear7 : ∀ (j k fu : Nat) (S : gh_St), k + j = 4 → j < fu → (∀ i, i < k → S.1 (gh_pl b + 1) i = nI 0 ∧ S.1 (gh_pl b + 2) i = gq_B false) → ∃ S', sX5_clear_7 N b fu (nI k) S = some S' ∧ (∀ i, i < 4 → S'.1 (gh_pl b + 1) i = nI 0 ∧ S'.1 (gh_pl b + 2) i = gq_B false) ∧ gh_fr (fun c _ => Nat.beq c (gh_pl b + 1) || Nat.beq c (gh_pl b + 2)) S S' := by
  have hp := gl_pl b
  intro j
  induction j with
  | zero =>
    intro k fu S hk hfu hd
    obtain ⟨fu, rfl⟩ : ∃ q, fu = q + 1 := ⟨fu - 1, by omega⟩
    rw [sX5_clear_7, show gh_cmp .ge (nI k) 4 = decide (4 ≤ k) from gh_n_ge (b := 4) (by omega) (by omega), decide_eq_true (by omega), cond_true]
    exact ⟨S, rfl, fun i hi => hd i (by omega), gh_fr_refl _ _⟩
  | succ j ih =>
    intro k fu S hk hfu hd
    obtain ⟨fu, rfl⟩ : ∃ q, fu = q + 1 := ⟨fu - 1, by omega⟩
    rw [sX5_clear_7, show gh_cmp .ge (nI k) 4 = decide (4 ≤ k) from gh_n_ge (b := 4) (by omega) (by omega), decide_eq_false (by omega), cond_false, gh_wa_n (by omega) (by decide), gq_bs, show vp_nar .boolean (0 : Int32) = gq_B false from gq_B_nar false, gh_wa_n (by omega) (by decide), gq_bs, nI_1]
    have f1 : gh_fr (fun c _ => Nat.beq c (gh_pl b + 1) || Nat.beq c (gh_pl b + 2)) S (gh_fI (gh_fI S (gh_pl b + 1) k 0) (gh_pl b + 2) k (gq_B false)) := gh_fr_fI (gh_fr_fI (gh_fr_refl _ _) (by show (Nat.beq (gh_pl b + 1) (gh_pl b + 1) || _) = true; rw [Nat.beq_refl]; rfl)) (by show (_ || Nat.beq (gh_pl b + 2) (gh_pl b + 2)) = true; rw [Nat.beq_refl, Bool.or_true])
    obtain ⟨S', a1, a2, a3⟩ := ih (k + 1) fu (gh_fI (gh_fI S (gh_pl b + 1) k 0) (gh_pl b + 2) k (gq_B false)) (by omega) (by omega) (fun i hi => by
      by_cases e : i = k
      · subst e
        rw [gh_fI_1, if_neg (by omega), gh_fI_1, if_pos ⟨rfl, rfl⟩, gh_fI_1, if_pos ⟨rfl, rfl⟩]
        exact ⟨rfl, rfl⟩
      · rw [gh_fI_1, if_neg (by omega), gh_fI_1, if_neg (by omega), gh_fI_1, if_neg (by omega), gh_fI_1, if_neg (by omega)]
        exact hd i (by omega))
    exact ⟨S', a1, a2, gh_fr_trans f1 a3⟩
def gl_P0 : gl_PP := (fun _ => none, 0, fun _ => 0, fun _ => 0)
theorem gl_readC (hN : 300 ≤ N) (hn : n ≤ 200) (hb : ∀ k, bs k < 256) {S : gh_St} (hW : gt_W S n bs) : ∃ S', gl_outC n bs b S S' (sX6_read N b S) (gl_parse n bs (n + 1) 0 0 gl_P0) := by
  have hp := gl_pl b
  obtain ⟨T, hT⟩ : ∃ T, T = gh_fI (gh_fI (gh_fI (gh_fI (gh_fI (gh_fI S 45 0 1) 45 1 0) 45 2 (-1)) 45 3 0) 45 7 0) 45 10 0 := ⟨_, rfl⟩
  have fT : gh_fr (gl_CK b) S T := by
    rw [hT]
    repeat first | exact gh_fr_refl _ _ | refine gh_fr_fI ?_ rfl
  obtain ⟨S1, a1, a2, a3⟩ := gl_clear7 (b := b) N 4 0 N (gh_fI T (gh_pl b) 4 0) (by omega) (by omega) (fun i hi => absurd hi (Nat.not_lt_zero _))
  have e45 : ∀ k, S1.1 45 k = T.1 45 k := fun k => by
    rw [a3.1 45 k (gf_bf (fun w => by
      simp only [Bool.or_eq_true, Nat.beq_eq] at w
      omega)), gh_fI_1, if_neg (by omega)]
  have fS1 : gh_fr (gl_CK b) S S1 := gh_fr_trans fT (gh_fr_trans (gh_fr_fI (gh_fr_refl _ _) (gl_CK_pl b (j := 0) (by omega) 4)) (gh_fr_mono a3 (fun c k h => by
    simp only [Bool.or_eq_true, Nat.beq_eq] at h
    rcases h with h | h
    · rw [h]; exact gl_CK_pl b (by omega) k
    · rw [h]; exact gl_CK_pl b (by omega) k)))
  have hL : gl_LC S1 b gl_P0 := by
    refine ⟨?_, by show 0 ≤ 8; omega, fun k hk => ?_, fun i hi => absurd hi (Nat.not_lt_zero _)⟩
    · rw [a3.1 (gh_pl b) 4 (gf_bf (fun w => by
        simp only [Bool.or_eq_true, Nat.beq_eq] at w
        omega)), gh_fI_1, if_pos ⟨rfl, rfl⟩]
      rfl
    · exact ⟨(a2 k hk).1, (a2 k hk).2, by show 0 ≤ 9999; omega⟩
  have hW1 : gt_W S1 n bs := ⟨(fS1.1 43 1 (gf_bf (fun w => by
      unfold gl_CK at w
      simp only [Bool.or_eq_true, Bool.and_eq_true, Nat.beq_eq, Nat.ble_eq] at w
      omega))).trans hW.1, fun k hk => (fS1.1 44 k (gf_bf (fun w => by
      unfold gl_CK at w
      simp only [Bool.or_eq_true, Bool.and_eq_true, Nat.beq_eq, Nat.ble_eq] at w
      omega))).trans (hW.2 k hk)⟩
  have hCS : gl_CS S1 n bs 0 0 0 b gl_P0 false 0 := ⟨hW1, by rw [e45, hT]; simp [gh_fI_1]; rfl, by rw [e45, hT]; simp [gh_fI_1]; rfl, by rw [e45, hT]; simp [gh_fI_1]; rfl, by rw [e45, hT]; simp [gh_fI_1], by rw [e45, hT]; simp [gh_fI_1], by rw [e45, hT]; simp [gh_fI_1], hL, fun h => by omega, fun h => by omega⟩
  obtain ⟨S', b1, b2, b3⟩ := gl_rd (n := n) (bs := bs) (b := b) N hN hn hb (n + 1) 0 0 N 0 gl_P0 S1 false 0 (by omega) (by omega) (by omega) (by omega) (by omega) hCS
  refine ⟨S', ?_, b2, gh_fr_trans fS1 b3⟩
  have er : sX6_read N b S = sX6_read_36 N b N (nI 0) S1 := by
    unfold sX6_read sX5_clear
    rw [← hT, show (0 : Int32) = nI 0 from rfl, show sX5_clear_7 N b N (nI 0) (gh_fI T (gh_pl b) 4 (nI 0)) = some S1 from a1, gq_bs]
  rw [er]
  exact b1
end GlRc
