/-! ===== LIST: tokens in the reference ===== -/
def gl_VR (S : gh_St) (bs : Nat → Nat) : Prop := ∀ k, k < 200 → S.1 76 k = gt_sb (bs k)
def gl_CM (c k : Nat) : Bool := Nat.beq c 56 && (Nat.ble 32 k && Nat.ble k 35)
theorem gl_VR_56 {S : gh_St} {bs : Nat → Nat} (h : gl_VR S bs) {k : Nat} {x : Int32} : gl_VR (gh_fI S 56 k x) bs := fun j hj => by rw [gh_fI_1, if_neg (by omega)]; exact h j hj
/-- what the reference holds of a word -/
def gl_told (w : Nat) : Int32 := if w = 2 then -1 else nI w
/-- the reference's sort of a token -/
def gl_sort (k w : Nat) : Nat := if k = 0 then 0 else if k = 2 then (if w = 2 then 4 else 1) else if k = 3 then 2 else if k = 4 then 3 else 4
section GlRn
variable {n : Nat} {bs : Nat → Nat} (N : Nat)
theorem gl_spR (hn : n ≤ 200) (hb : ∀ k, bs k < 256) : ∀ (k a fu : Nat) (S : gh_St), a + k = n → k < fu → gl_VR S bs → S.1 56 32 = nI a → ∃ S', sX10_next_0h N fu (nI n) S = sX10_next_35 N (nI n) S' ∧ S'.1 56 32 = nI (gl_run gl_spc bs k a) ∧ gl_VR S' bs ∧ gh_fr gl_CM S S' := by
  intro k
  induction k with
  | zero =>
    intro a fu S hk hfu hV h3
    obtain ⟨fu, rfl⟩ : ∃ q, fu = q + 1 := ⟨fu - 1, by omega⟩
    rw [sX10_next_0h, h3, gh_n_ge (by omega) (by omega), decide_eq_true (by omega), cond_true]
    exact ⟨S, rfl, h3, hV, gh_fr_refl _ _⟩
  | succ k ih =>
    intro a fu S hk hfu hV h3
    obtain ⟨fu, rfl⟩ : ∃ q, fu = q + 1 := ⟨fu - 1, by omega⟩
    rw [sX10_next_0h, h3, gh_n_ge (by omega) (by omega), decide_eq_false (by omega), cond_false, gh_ra_n (by omega) (by decide), gq_bs, hV a (by omega), show (32 : Int32) = nI 32 from rfl, gl_sb_eq (hb a) (by omega), gl_run]
    show ∃ S', (bif !gl_spc (bs a) then _ else _) = _ ∧ _
    cases gl_spc (bs a) with
    | false => exact ⟨S, rfl, h3, hV, gh_fr_refl _ _⟩
    | true =>
      rw [Bool.not_true, cond_false, cond_true, nI_1]
      obtain ⟨S', a1, a2, a3, a4⟩ := ih (a + 1) fu (gh_fI S 56 32 (nI (a + 1))) (by omega) (by omega) (gl_VR_56 hV) (by rw [gh_fI_1, if_pos ⟨rfl, rfl⟩])
      exact ⟨S', a1, a2, a3, gh_fr_trans (gh_fr_fI (gh_fr_refl _ _) rfl) a4⟩
theorem gl_ltR (hn : n ≤ 200) (hb : ∀ k, bs k < 256) : ∀ (k a fu : Nat) (S : gh_St) (v i : Nat), a + k = n → k < fu → gl_VR S bs → S.1 56 32 = nI a → i ≤ 200 → i + k ≤ 200 → ∃ S', sX10_next_79 N fu (nI n) (lN v) (nI i) S = sX10_next_150 N (lN (gl_h bs (gl_run gl_let bs k a - a) a i v)) (nI (i + (gl_run gl_let bs k a - a))) S' ∧ S'.1 56 32 = nI (gl_run gl_let bs k a) ∧ gh_fr gl_CM S S' ∧ S'.1 56 33 = S.1 56 33 := by
  intro k
  induction k with
  | zero =>
    intro a fu S v i hk hfu hV h3 hi hik
    obtain ⟨fu, rfl⟩ : ∃ q, fu = q + 1 := ⟨fu - 1, by omega⟩
    rw [sX10_next_79, h3, gh_n_ge (by omega) (by omega), decide_eq_true (by omega), cond_true, gl_run, Nat.sub_self]
    exact ⟨S, rfl, h3, gh_fr_refl _ _, rfl⟩
  | succ k ih =>
    intro a fu S v i hk hfu hV h3 hi hik
    obtain ⟨fu, rfl⟩ : ∃ q, fu = q + 1 := ⟨fu - 1, by omega⟩
    rw [sX10_next_79, h3, gh_n_ge (by omega) (by omega), decide_eq_false (by omega), cond_false, gh_ra_n (by omega) (by decide), gq_bs, hV a (by omega), gl_isLetR N _ (hb a), gq_bs, gl_run]
    show ∃ S', (bif gh_cmp .eq (gq_B (gl_let (bs a))) 0 then sX10_next_150 N (lN v) (nI i) S else bif gh_cmp .ge (nI i) 8 then sX10_next_133 N (sX10_next_79 N fu) (nI n) (nI i) (lN v) S else ((gh_ra S 76 200 (S.1 56 32)).bind fun x3 => sX10_next_133 N (sX10_next_79 N fu) (nI n) (nI i) (((64 : Int64) * lN v + x3.toInt64) - 64) S)) = _ ∧ _
    rw [gq_B_eq]
    cases hl : gl_let (bs a) with
    | false =>
      rw [Bool.not_false, cond_true, cond_false, Nat.sub_self]
      exact ⟨S, rfl, h3, gh_fr_refl _ _, rfl⟩
    | true =>
      have hlb := gl_let_b hl
      have hle := (gl_run_le gl_let bs k (a + 1)).1
      rw [Bool.not_true, cond_false, cond_true, show gh_cmp .ge (nI i) 8 = decide (8 ≤ i) from gh_n_ge (b := 8) (by omega) (by omega)]
      have go : ∀ v' : Nat, v' = (if i < 8 then 64 * v + bs a - 64 else v) → ∃ S', sX10_next_133 N (sX10_next_79 N fu) (nI n) (nI i) (lN v') S = sX10_next_150 N (lN (gl_h bs (gl_run gl_let bs k (a + 1) - a) a i v)) (nI (i + (gl_run gl_let bs k (a + 1) - a))) S' ∧ S'.1 56 32 = nI (gl_run gl_let bs k (a + 1)) ∧ gh_fr gl_CM S S' ∧ S'.1 56 33 = S.1 56 33 := by
        intro v' hv'
        unfold sX10_next_133
        rw [h3, nI_1, nI_1]
        obtain ⟨S', a1, a2, a3, a4⟩ := ih (a + 1) fu (gh_fI S 56 32 (nI (a + 1))) v' (i + 1) (by omega) (by omega) (gl_VR_56 hV) (by rw [gh_fI_1, if_pos ⟨rfl, rfl⟩]) (by omega) (by omega)
        refine ⟨S', ?_, a2, gh_fr_trans (gh_fr_fI (gh_fr_refl _ _) rfl) a3, by rw [a4, gh_fI_1, if_neg (by omega)]⟩
        rw [a1, show gl_run gl_let bs k (a + 1) - a = (gl_run gl_let bs k (a + 1) - (a + 1)) + 1 by omega, gl_h, ← hv']
        congr 2
        omega
      by_cases c8 : i < 8
      · have hx : (gt_sb (bs a)).toInt64 = lN (bs a) := by
          have : gt_sb (bs a) = nI (bs a) := if_pos (by omega)
          rw [this, nI_l (by omega)]
        rw [decide_eq_false (by omega), cond_false, h3, gh_ra_n (by omega) (by decide), gq_bs, hV a (by omega), hx, show (64 : Int64) = lN 64 from rfl, lN_mul, lN_add, lN_sub (by omega)]
        exact go _ (by rw [if_pos c8])
      · rw [decide_eq_true (by omega), cond_true]
        exact go v (by rw [if_neg c8])
theorem gl_nmR (hn : n ≤ 200) (hb : ∀ k, bs k < 256) : ∀ (k a fu : Nat) (S : gh_St) (v : Nat), a + k = n → k < fu → gl_VR S bs → S.1 56 32 = nI a → S.1 56 35 = nI v → v ≤ 1000000 → ∃ S', sX10_next_211 N fu (nI n) S = some S' ∧ S'.1 56 32 = nI (gl_run gl_dig bs k a) ∧ S'.1 56 35 = nI (gl_vR bs (gl_run gl_dig bs k a - a) a v) ∧ gh_fr gl_CM S S' ∧ S'.1 56 33 = S.1 56 33 ∧ S'.1 56 34 = S.1 56 34 := by
  intro k
  induction k with
  | zero =>
    intro a fu S v hk hfu hV h3 h6 hv
    obtain ⟨fu, rfl⟩ : ∃ q, fu = q + 1 := ⟨fu - 1, by omega⟩
    rw [sX10_next_211, h3, gh_n_ge (by omega) (by omega), decide_eq_true (by omega), cond_true]
    refine ⟨S, rfl, h3, ?_, gh_fr_refl _ _, rfl, rfl⟩
    rw [gl_run, Nat.sub_self]
    exact h6
  | succ k ih =>
    intro a fu S v hk hfu hV h3 h6 hv
    obtain ⟨fu, rfl⟩ : ∃ q, fu = q + 1 := ⟨fu - 1, by omega⟩
    rw [sX10_next_211, h3, gh_n_ge (by omega) (by omega), decide_eq_false (by omega), cond_false, gh_ra_n (by omega) (by decide), gq_bs, hV a (by omega), gl_isDigR N _ (hb a), gq_bs, gl_run]
    show ∃ S', (bif gh_cmp .eq (gq_B (gl_dig (bs a))) 0 then some S else bif gh_cmp .le (S.1 56 35) 99999 then ((gh_ra S 76 200 (S.1 56 32)).bind fun x3 => sX10_next_279 N (sX10_next_211 N fu) (nI n) (((10 : Int32) * (S.1 56 35) + x3) - 48) S) else sX10_next_279 N (sX10_next_211 N fu) (nI n) (S.1 56 35) S) = _ ∧ _
    rw [gq_B_eq]
    cases hd : gl_dig (bs a) with
    | false =>
      refine ⟨S, rfl, h3, ?_, gh_fr_refl _ _, rfl, rfl⟩
      rw [cond_false, Nat.sub_self]
      exact h6
    | true =>
      have hdp := hd
      unfold gl_dig at hdp
      rw [Bool.and_eq_true, Nat.ble_eq, Nat.ble_eq] at hdp
      have hle := (gl_run_le gl_dig bs k (a + 1)).1
      rw [Bool.not_true, cond_false, cond_true, h6, show gh_cmp .le (nI v) 99999 = decide (v ≤ 99999) from gh_n_le (b := 99999) (by omega) (by omega)]
      have go : ∀ v' : Nat, v' = (if 99999 < v then v else 10 * v + bs a - 48) → v' ≤ 1000000 → ∃ S', sX10_next_279 N (sX10_next_211 N fu) (nI n) (nI v') S = some S' ∧ S'.1 56 32 = nI (gl_run gl_dig bs k (a + 1)) ∧ S'.1 56 35 = nI (gl_vR bs (gl_run gl_dig bs k (a + 1) - a) a v) ∧ gh_fr gl_CM S S' ∧ S'.1 56 33 = S.1 56 33 ∧ S'.1 56 34 = S.1 56 34 := by
        intro v' hv' hvb
        unfold sX10_next_279
        have e3 : (gh_fI S 56 35 (nI v')).1 56 32 = nI a := by rw [gh_fI_1, if_neg (by omega)]; exact h3
        rw [e3, nI_1]
        obtain ⟨S', a1, a2, a3, a4, a5, a6⟩ := ih (a + 1) fu (gh_fI (gh_fI S 56 35 (nI v')) 56 32 (nI (a + 1))) v' (by omega) (by omega) (gl_VR_56 (gl_VR_56 hV)) (by rw [gh_fI_1, if_pos ⟨rfl, rfl⟩]) (by rw [gh_fI_1, if_neg (by omega), gh_fI_1, if_pos ⟨rfl, rfl⟩]) hvb
        refine ⟨S', a1, a2, ?_, gh_fr_trans (gh_fr_fI (gh_fr_fI (gh_fr_refl _ _) rfl) rfl) a4, ?_, ?_⟩
        · rw [a3, show gl_run gl_dig bs k (a + 1) - a = (gl_run gl_dig bs k (a + 1) - (a + 1)) + 1 by omega, gl_vR, ← hv']
        · rw [a5, gh_fI_1, if_neg (by omega), gh_fI_1, if_neg (by omega)]
        · rw [a6, gh_fI_1, if_neg (by omega), gh_fI_1, if_neg (by omega)]
      by_cases c9 : v ≤ 99999
      · have hx : gt_sb (bs a) = nI (bs a) := if_pos (by omega)
        rw [decide_eq_true c9, cond_true, h3, gh_ra_n (by omega) (by decide), gq_bs, hV a (by omega), hx, show (10 : Int32) = nI 10 from rfl, show (48 : Int32) = nI 48 from rfl, pk_mul, nI_add, pk_sub (by omega)]
        exact go _ (by rw [if_neg (by omega)]) (by omega)
      · rw [decide_eq_false c9, cond_false]
        exact go v (by rw [if_pos (by omega)]) hv
theorem gl_wordOf {v : Nat} (hv : v < 1073741824) (S : gh_St) : sX10_wordOf N (lN v) S = some (gl_told (gl_wo v), S) := by
  unfold sX10_wordOf gl_wo
  rw [show (818583781 : Int64) = lN 818583781 from rfl, show (9631979 : Int64) = lN 9631979 from rfl, gb_l_ne (by omega) (by omega), gb_l_ne (by omega) (by omega)]
  by_cases c1 : v = 818583781
  · rw [decide_eq_false (not_not_intro c1), cond_false, if_pos c1]
    rfl
  · rw [decide_eq_true c1, cond_true, if_neg c1]
    by_cases c2 : v = 9631979
    · rw [decide_eq_false (not_not_intro c2), cond_false, if_pos c2]
      rfl
    · rw [decide_eq_true c2, cond_true, if_neg c2]
      rfl
theorem gl_165 {w : Nat} (hw : w ≤ 2) (S : gh_St) : sX10_next_165 N (gl_told w) S = some (gh_fI (gh_fI S 56 35 (gl_told w)) 56 34 (nI (if w = 2 then 4 else 1))) := by
  unfold sX10_next_165 sX10_next_181
  rw [gh_fI_1, if_pos ⟨rfl, rfl⟩]
  have : w = 0 ∨ w = 1 ∨ w = 2 := by omega
  rcases this with rfl | rfl | rfl <;> rfl
theorem gl_wd_le (bs : Nat → Nat) (s e : Nat) : gl_wd bs s e ≤ 2 := by
  unfold gl_wd
  split
  · omega
  · split <;> omega
theorem gl_nextR (hN : 300 ≤ N) (hn : n ≤ 200) (hb : ∀ k, bs k < 256) {S : gh_St} {a : Nat} (ha : a ≤ n) (hV : gl_VR S bs) (h3 : S.1 56 32 = nI a) : ∃ S', sX10_next N (nI n) S = some S' ∧ S'.1 56 32 = nI (gl_e n bs a) ∧ S'.1 56 33 = nI (gl_s n bs a) ∧ S'.1 56 34 = nI (gl_sort (gl_k n bs a) (gl_wd bs (gl_s n bs a) (gl_e n bs a))) ∧ (gl_k n bs a = 3 → S'.1 56 35 = nI (gl_vR bs (gl_e n bs a - gl_s n bs a) (gl_s n bs a) 0)) ∧ (gl_k n bs a = 2 → S'.1 56 35 = gl_told (gl_wd bs (gl_s n bs a) (gl_e n bs a))) ∧ gh_fr gl_CM S S' := by
  obtain ⟨S1, a1, a2, a3, a4⟩ := gl_spR (n := n) (bs := bs) N hn hb (n - a) a N S (by omega) (by omega) hV h3
  have hsl := gl_run_le gl_spc bs (n - a) a
  have hs : gl_run gl_spc bs (n - a) a = gl_s n bs a := rfl
  rw [hs] at a2 hsl
  unfold sX10_next
  rw [a1]
  unfold sX10_next_35
  have f1 : gh_fr gl_CM S (gh_fI S1 56 33 (nI (gl_s n bs a))) := gh_fr_fI a4 rfl
  have hV1 : gl_VR (gh_fI S1 56 33 (nI (gl_s n bs a))) bs := gl_VR_56 a3
  have e3 : (gh_fI S1 56 33 (nI (gl_s n bs a))).1 56 32 = nI (gl_s n bs a) := by rw [gh_fI_1, if_neg (by omega)]; exact a2
  have e4 : (gh_fI S1 56 33 (nI (gl_s n bs a))).1 56 33 = nI (gl_s n bs a) := by rw [gh_fI_1, if_pos ⟨rfl, rfl⟩]
  rw [a2]
  generalize gh_fI S1 56 33 (nI (gl_s n bs a)) = T at f1 hV1 e3 e4 ⊢
  rw [e3, gh_n_ne (by omega) (by omega)]
  unfold gl_k gl_e
  generalize gl_s n bs a = s at hsl e3 e4 ⊢
  by_cases c0 : n ≤ s
  · rw [decide_eq_false (by omega), cond_false]
    simp only [if_pos c0]
    refine ⟨gh_fI T 56 34 0, rfl, by rw [gh_fI_1, if_neg (by omega)]; exact e3, by rw [gh_fI_1, if_neg (by omega)]; exact e4, by rw [gh_fI_1, if_pos ⟨rfl, rfl⟩]; rfl, fun h => by omega, fun h => by omega, gh_fr_fI f1 rfl⟩
  · rw [decide_eq_true (by omega), cond_true, gh_ra_n (by omega) (by decide), gq_bs, hV1 s (by omega), gl_isLetR N _ (hb s), gq_bs]
    simp only [if_neg c0]
    rw [gq_B_eq]
    cases hl : gl_let (bs s) with
    | true =>
      simp only [if_true]
      rw [Bool.not_true, cond_false]
      obtain ⟨S', b1, b2, b3, b4⟩ := gl_ltR (n := n) (bs := bs) N hn hb (n - s) s N T 0 0 (by omega) (by omega) hV1 e3 (by omega) (by omega)
      have b1' : sX10_next_79 N N (nI n) 0 0 T = sX10_next_150 N (lN (gl_h bs (gl_run gl_let bs (n - s) s - s) s 0 0)) (nI (0 + (gl_run gl_let bs (n - s) s - s))) S' := b1
      rw [b1', Nat.zero_add]
      have hrs := gl_run_s (p := gl_let) (bs := bs) (k := n - s) (a := s) (by omega) hl
      have hrl := (gl_run_le gl_let bs (n - s) s).2
      have hri := gl_run_in gl_let bs (n - s) s
      generalize gl_run gl_let bs (n - s) s = e at b2 hrs hrl hri ⊢
      have hw2 := gl_wd_le bs s e
      have h150 : sX10_next_150 N (lN (gl_h bs (e - s) s 0 0)) (nI (e - s)) S' = some (gh_fI (gh_fI S' 56 35 (gl_told (gl_wd bs s e))) 56 34 (nI (if gl_wd bs s e = 2 then 4 else 1))) := by
        unfold sX10_next_150
        rw [show gh_cmp .le (nI (e - s)) 5 = decide (e - s ≤ 5) from gh_n_le (b := 5) (by omega) (by omega)]
        by_cases c5 : e - s ≤ 5
        · obtain ⟨w1, w2⟩ := gl_word (bs := bs) hrs c5 (fun i h1 h2 => hri i h1 h2)
          rw [decide_eq_true c5, cond_true, gl_wordOf N w2, gq_bs, w1]
          exact gl_165 N hw2 S'
        · have : gl_wd bs s e = 2 := by
            unfold gl_wd
            rw [if_neg (fun w => by omega), if_neg (fun w => by omega)]
          rw [decide_eq_false c5, cond_false, this]
          exact gl_165 (w := 2) N (by omega) S'
      rw [h150]
      refine ⟨_, rfl, ?_, ?_, ?_, fun h => by omega, fun _ => ?_, gh_fr_trans f1 (gh_fr_fI (gh_fr_fI b3 rfl) rfl)⟩
      · rw [gh_fI_1, if_neg (by omega), gh_fI_1, if_neg (by omega)]; exact b2
      · rw [gh_fI_1, if_neg (by omega), gh_fI_1, if_neg (by omega), b4]; exact e4
      · rw [gh_fI_1, if_pos ⟨rfl, rfl⟩]; rfl
      · rw [gh_fI_1, if_neg (by omega), gh_fI_1, if_pos ⟨rfl, rfl⟩]
    | false =>
      simp only [Bool.false_eq_true, if_false]
      rw [Bool.not_false, cond_true, gl_isDigR N _ (hb s), gq_bs]
      show ∃ S', (bif gh_cmp .eq (gq_B (gl_dig (bs s))) 0 then bif gh_cmp .ne (gt_sb (bs s)) 59 then sX10_next_317 N 4 (gh_fI T 56 32 ((T.1 56 32) + 1)) else sX10_next_317 N 3 (gh_fI T 56 32 ((T.1 56 32) + 1)) else sX10_next_211 N N (nI n) (gh_fI (gh_fI T 56 34 2) 56 35 0)) = _ ∧ _
      rw [gq_B_eq]
      cases hd : gl_dig (bs s) with
      | true =>
        simp only [if_true]
        rw [Bool.not_true, cond_false]
        obtain ⟨S', b1, b2, b3, b4, b5, b6⟩ := gl_nmR (n := n) (bs := bs) N hn hb (n - s) s N (gh_fI (gh_fI T 56 34 2) 56 35 0) 0 (by omega) (by omega) (gl_VR_56 (gl_VR_56 hV1)) (by rw [gh_fI_1, if_neg (by omega), gh_fI_1, if_neg (by omega)]; exact e3) (by rw [gh_fI_1, if_pos ⟨rfl, rfl⟩]; rfl) (by omega)
        refine ⟨S', b1, b2, ?_, ?_, fun _ => b3, fun h => by omega, gh_fr_trans (gh_fr_fI (gh_fr_fI f1 rfl) rfl) b4⟩
        · rw [b5, gh_fI_1, if_neg (by omega), gh_fI_1, if_neg (by omega)]; exact e4
        · rw [b6, gh_fI_1, if_neg (by omega), gh_fI_1, if_pos ⟨rfl, rfl⟩]; rfl
      | false =>
        simp only [Bool.false_eq_true, if_false]
        rw [Bool.not_false, cond_true, e3, nI_1, show (59 : Int32) = nI 59 from rfl, gl_sb_eq (hb s) (by omega)]
        have go : ∀ x : Nat, ∃ S', sX10_next_317 N (nI x) (gh_fI T 56 32 (nI (s + 1))) = some S' ∧ S'.1 56 32 = nI (s + 1) ∧ S'.1 56 33 = nI s ∧ S'.1 56 34 = nI x ∧ gh_fr gl_CM S S' := by
          intro x
          refine ⟨gh_fI (gh_fI T 56 32 (nI (s + 1))) 56 34 (nI x), rfl, ?_, ?_, by rw [gh_fI_1, if_pos ⟨rfl, rfl⟩], gh_fr_fI (gh_fr_fI f1 rfl) rfl⟩
          · rw [gh_fI_1, if_neg (by omega), gh_fI_1, if_pos ⟨rfl, rfl⟩]
          · rw [gh_fI_1, if_neg (by omega), gh_fI_1, if_neg (by omega)]; exact e4
        by_cases c59 : bs s = 59
        · rw [c59, show Nat.beq 59 59 = true from rfl, Bool.not_true, cond_false]
          simp only [if_true]
          obtain ⟨S', b1, b2, b3, b4, b5⟩ := go 3
          exact ⟨S', b1, b2, b3, b4, fun h => by omega, fun h => by omega, b5⟩
        · rw [show Nat.beq (bs s) 59 = false from gf_bf (fun w => c59 (Nat.eq_of_beq_eq_true w)), Bool.not_false, cond_true]
          simp only [if_neg c59]
          obtain ⟨S', b1, b2, b3, b4, b5⟩ := go 4
          exact ⟨S', b1, b2, b3, b4, fun h => by omega, fun h => by omega, b5⟩
end GlRn
