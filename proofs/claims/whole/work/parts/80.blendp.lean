/-! ===== BLENDS: the best of all, purely ===== -/
def gb_ok (q : Nat) (mo : Nat → Nat) (t : Nat × Nat × Nat × Nat) : Prop := t.1 + t.2.1 + t.2.2.1 + t.2.2.2 = q ∧ t.1 ≤ mo 0 ∧ t.2.1 ≤ mo 1 ∧ t.2.2.1 ≤ mo 2 ∧ t.2.2.2 ≤ mo 3
def gb_V (G : Nat → Nat → Nat) (t : Nat × Nat × Nat × Nat) : Nat := G 0 t.1 + G 1 t.2.1 + G 2 t.2.2.1 + G 3 t.2.2.2
/-- t stands before t' -/
def gb_gt (t t' : Nat × Nat × Nat × Nat) : Prop := t'.1 < t.1 ∨ (t.1 = t'.1 ∧ (t'.2.1 < t.2.1 ∨ (t.2.1 = t'.2.1 ∧ t'.2.2.1 < t.2.2.1)))
def gb_bst (q : Nat) (mo : Nat → Nat) (G : Nat → Nat → Nat) (W : Nat) (Pr : Nat × Nat × Nat × Nat → Prop) (acc : Option (Nat × Nat × Nat × Nat × Nat)) : Prop :=
  match acc with
  | none => ∀ t, gb_ok q mo t → Pr t → gb_V G t < W
  | some (v, t) => gb_ok q mo t ∧ Pr t ∧ gb_V G t = v ∧ W ≤ v ∧ ∀ t', gb_ok q mo t' → Pr t' → W ≤ gb_V G t' → v ≤ gb_V G t' ∧ (gb_V G t' = v → t' = t ∨ gb_gt t t')
def gb_pick (G : Nat → Nat → Nat) (W : Nat) (acc : Option (Nat × Nat × Nat × Nat × Nat)) (t : Nat × Nat × Nat × Nat) : Option (Nat × Nat × Nat × Nat × Nat) :=
  if gb_V G t < W then acc else match acc with
  | none => some (gb_V G t, t)
  | some (v, t0) => if gb_V G t < v then some (gb_V G t, t) else some (v, t0)
section GbP
variable {q : Nat} {mo : Nat → Nat} {G : Nat → Nat → Nat} {W : Nat} {Pr Pr' : Nat × Nat × Nat × Nat → Prop}
theorem gb_bst_cg {acc : Option (Nat × Nat × Nat × Nat × Nat)} (h : gb_bst q mo G W Pr acc) (he : ∀ t, gb_ok q mo t → (Pr t ↔ Pr' t)) : gb_bst q mo G W Pr' acc := by
  cases acc with
  | none => exact fun t ht hp => h t ht ((he t ht).mpr hp)
  | some x =>
    obtain ⟨v, t⟩ := x
    obtain ⟨h1, h2, h3, h4, h5⟩ := h
    exact ⟨h1, (he t h1).mp h2, h3, h4, fun t' ht' hp => h5 t' ht' ((he t' ht').mpr hp)⟩
theorem gb_bst_add {acc : Option (Nat × Nat × Nat × Nat × Nat)} {t : Nat × Nat × Nat × Nat} (h : gb_bst q mo G W Pr acc) (ht : gb_ok q mo t) (hb : ∀ t', gb_ok q mo t' → Pr t' → gb_gt t' t) : gb_bst q mo G W (fun s => Pr s ∨ s = t) (gb_pick G W acc t) := by
  unfold gb_pick
  by_cases hW : gb_V G t < W
  · rw [if_pos hW]
    cases acc with
    | none =>
      intro s hs hp
      rcases hp with hp | rfl
      · exact h s hs hp
      · exact hW
    | some x =>
      obtain ⟨v, t0⟩ := x
      obtain ⟨h1, h2, h3, h4, h5⟩ := h
      refine ⟨h1, Or.inl h2, h3, h4, fun s hs hp hw => ?_⟩
      rcases hp with hp | rfl
      · exact h5 s hs hp hw
      · omega
  · rw [if_neg hW]
    cases acc with
    | none =>
      refine ⟨ht, Or.inr rfl, rfl, by omega, fun s hs hp hw => ?_⟩
      rcases hp with hp | rfl
      · have := h s hs hp
        omega
      · exact ⟨Nat.le_refl _, fun _ => Or.inl rfl⟩
    | some x =>
      obtain ⟨v, t0⟩ := x
      obtain ⟨h1, h2, h3, h4, h5⟩ := h
      show gb_bst q mo G W _ (if gb_V G t < v then some (gb_V G t, t) else some (v, t0))
      by_cases hv : gb_V G t < v
      · rw [if_pos hv]
        refine ⟨ht, Or.inr rfl, rfl, by omega, fun s hs hp hw => ?_⟩
        rcases hp with hp | rfl
        · have := (h5 s hs hp hw).1
          exact ⟨by omega, fun e => by omega⟩
        · exact ⟨Nat.le_refl _, fun _ => Or.inl rfl⟩
      · rw [if_neg hv]
        refine ⟨h1, Or.inl h2, h3, h4, fun s hs hp hw => ?_⟩
        rcases hp with hp | rfl
        · exact h5 s hs hp hw
        · exact ⟨by omega, fun _ => Or.inr (hb t0 h1 h2)⟩
theorem gb_gt_as {t t' : Nat × Nat × Nat × Nat} (h : gb_gt t t') (h' : gb_gt t' t) : False := by
  unfold gb_gt at h h'
  omega
theorem gb_bst_u {a b : Option (Nat × Nat × Nat × Nat × Nat)} (ha : gb_bst q mo G W (fun _ => True) a) (hb : gb_bst q mo G W (fun _ => True) b) : a = b := by
  cases a with
  | none =>
    cases b with
    | none => rfl
    | some y =>
      obtain ⟨v, t⟩ := y
      obtain ⟨h1, h2, h3, h4, h5⟩ := hb
      have := ha t h1 trivial
      omega
  | some x =>
    obtain ⟨v, t⟩ := x
    obtain ⟨h1, h2, h3, h4, h5⟩ := ha
    cases b with
    | none =>
      have := hb t h1 trivial
      omega
    | some y =>
      obtain ⟨v', t'⟩ := y
      obtain ⟨k1, k2, k3, k4, k5⟩ := hb
      obtain ⟨p1, p2⟩ := h5 t' k1 trivial (by omega)
      obtain ⟨r1, r2⟩ := k5 t h1 trivial (by omega)
      have hv : v = v' := by omega
      have ht : t' = t := by
        rcases p2 (by omega) with e | e
        · exact e
        · rcases r2 (by omega) with e' | e'
          · exact e'.symm
          · exact absurd e' (fun w => gb_gt_as e w)
      rw [hv, ht]
end GbP
/-! longs -/
section GbL
variable {a b : Nat}
theorem gb_l_lt (ha : a < 2 ^ 63) (hb : b < 2 ^ 63) : gh_cmp .lt (lg_cmp (lN a) (lN b)) 0 = decide (a < b) := by
  rw [gh_lg_lt, pk_lT ha, pk_lT hb]
  exact decide_eq_decide.mpr (by omega)
theorem gb_l_ge (ha : a < 2 ^ 63) (hb : b < 2 ^ 63) : gh_cmp .ge (lg_cmp (lN a) (lN b)) 0 = decide (b ≤ a) := by
  rw [gh_lg_ge, pk_lT ha, pk_lT hb]
  exact decide_eq_decide.mpr (by omega)
theorem gb_l_ne (ha : a < 2 ^ 63) (hb : b < 2 ^ 63) : gh_cmp .ne (lg_cmp (lN a) (lN b)) 0 = decide (a ≠ b) := by
  rw [gh_lg_ne, pk_lT ha, pk_lT hb]
  exact decide_eq_decide.mpr (by omega)
end GbL
/-! ===== BLENDS: the class's search ===== -/
def gb_mem (S : gh_St) (mo : Nat → Nat) (G : Nat → Nat → Nat) : Prop := ∀ i, i < 4 → S.1 39 i = nI (mo i) ∧ mo i ≤ 20 ∧ ∀ n, n ≤ mo i → S.2.1 40 (21 * i + n) = lN (G i n) ∧ G i n ≤ 4000000000
def gb_rc (S : gh_St) (acc : Option (Nat × Nat × Nat × Nat × Nat)) : Prop :=
  match acc with
  | none => S.2.1 37 5 = lN 1000000000000
  | some (v, t) => S.2.1 37 5 = lN v ∧ v ≤ 16000000000 ∧ S.1 41 0 = nI t.1 ∧ S.1 41 1 = nI t.2.1 ∧ S.1 41 2 = nI t.2.2.1 ∧ S.1 41 3 = nI t.2.2.2
def gb_CT (c k : Nat) : Bool := Nat.beq c 41 || (Nat.beq c 37 && Nat.beq k 5)
theorem gb_mem_fr {S S' : gh_St} {mo : Nat → Nat} {G : Nat → Nat → Nat} (h : gb_mem S mo G) (hf : gh_fr gb_CT S S') : gb_mem S' mo G := fun i hi => ⟨(hf.1 _ _ rfl).trans (h i hi).1, (h i hi).2.1, fun n hn => ⟨(hf.2.1 _ _ rfl).trans ((h i hi).2.2 n hn).1, ((h i hi).2.2 n hn).2⟩⟩
section GbC
variable {q : Nat} {mo : Nat → Nat} {G : Nat → Nat → Nat} {W : Nat} (N : Nat)
theorem gb_zpred (k : Nat) : nI k + (-1) = gq_Z ((k : Int) - 1) := by
  rw [← gq_Z_n, show (-1 : Int32) = gq_Z (-1) from rfl, gq_Z_add]
  exact congrArg gq_Z (by omega)
theorem gb_zs (k : Nat) : gq_Z (((k + 1 : Nat) : Int) - 1) = nI k := by
  rw [← gq_Z_n]
  exact congrArg gq_Z (by omega)
theorem gb_z0 : gh_cmp .lt (gq_Z (((0 : Nat) : Int) - 1)) 0 = true := by decide
theorem gb_n0 {k : Nat} (hk : k < 2 ^ 31) : gh_cmp .lt (nI k) 0 = false := by
  rw [show gh_cmp .lt (nI k) 0 = decide (k < 0) from gh_n_lt (b := 0) hk (by omega)]
  exact decide_eq_false (Nat.not_lt_zero _)
def gb_Pc (a b k : Nat) (t : Nat × Nat × Nat × Nat) : Prop := a < t.1 ∨ (t.1 = a ∧ (b < t.2.1 ∨ (t.2.1 = b ∧ k ≤ t.2.2.1)))
def gb_Pb (a k : Nat) (t : Nat × Nat × Nat × Nat) : Prop := a < t.1 ∨ (t.1 = a ∧ k ≤ t.2.1)
theorem gb_t81 (hW : W < 2 ^ 62) (hq : q ≤ 20) {a b : Nat} (hab : a + b ≤ q) (ha : a ≤ mo 0) (hb : b ≤ mo 1) (kc12 : Int32 → Int64 → Int32 → gh_St → Option gh_St) (kc36 : Int32 → Int64 → Int32 → Int32 → Int32 → gh_St → Option gh_St) (l5 : Int32) : ∀ (k fu : Nat) (S : gh_St) (acc : Option (Nat × Nat × Nat × Nat × Nat)), k < fu → k ≤ mo 2 + 1 → k ≤ q - a - b + 1 → gb_mem S mo G → gb_rc S acc → gb_bst q mo G W (gb_Pc a b k) acc → ∃ S' acc', sX1_tryAll_81 N kc12 kc36 fu (nI q) (lN W) (nI a) l5 (nI b) (nI (q - a - b)) (lN (G 0 a + G 1 b)) (gq_Z ((k : Int) - 1)) S = sX1_tryAll_194 N kc12 kc36 (nI q) (lN W) (nI a) l5 (nI b) S' ∧ gb_rc S' acc' ∧ gb_bst q mo G W (gb_Pb a b) acc' ∧ gh_fr gb_CT S S' := by
  intro k
  induction k with
  | zero =>
    intro fu S acc hfu hk1 hk2 hm hr hbst
    obtain ⟨fu, rfl⟩ : ∃ w, fu = w + 1 := ⟨fu - 1, by omega⟩
    rw [sX1_tryAll_81, gb_z0, cond_true]
    refine ⟨S, acc, rfl, hr, gb_bst_cg hbst (fun t _ => ?_), gh_fr_refl _ _⟩
    unfold gb_Pc gb_Pb
    omega
  | succ k ih =>
    intro fu S acc hfu hk1 hk2 hm hr hbst
    obtain ⟨fu, rfl⟩ : ∃ w, fu = w + 1 := ⟨fu - 1, by omega⟩
    have m0 := hm 0 (by omega)
    have m1 := hm 1 (by omega)
    have m2 := hm 2 (by omega)
    have m3 := hm 3 (by omega)
    have e3 : gh_ra S 39 4 3 = some (nI (mo 3)) := (gh_ra_n (k := 3) (by omega) (by decide)).trans (by rw [m3.1])
    rw [gb_zs, sX1_tryAll_81, gb_n0 (by omega), cond_false, e3, gq_bs, pk_sub (by omega), gh_n_gt (by omega) (by omega)]
    by_cases hd : mo 3 < q - a - b - k
    · rw [decide_eq_true hd, cond_true]
      refine ⟨S, acc, rfl, hr, gb_bst_cg hbst (fun t ht => ?_), gh_fr_refl _ _⟩
      obtain ⟨t1, t2, t3, t4, t5⟩ := ht
      unfold gb_Pc gb_Pb
      omega
    · have g0 := (m0.2.2 a ha).2
      have g1 := (m1.2.2 b hb).2
      have g2 := m2.2.2 k (by omega)
      have g3 := m3.2.2 (q - a - b - k) (by omega)
      have r2 : gh_rj S 40 84 ((42 : Int32) + nI k) = some (lN (G 2 k)) := by
        rw [show (42 : Int32) = nI 42 from rfl, nI_add, gh_rj_n (by omega) (by decide)]
        exact congrArg some g2.1
      have r3 : gh_rj S 40 84 ((63 : Int32) + nI (q - a - b - k)) = some (lN (G 3 (q - a - b - k))) := by
        rw [show (63 : Int32) = nI 63 from rfl, nI_add, gh_rj_n (by omega) (by decide)]
        exact congrArg some g3.1
      rw [decide_eq_false hd, cond_false, r2, gq_bs, r3, gq_bs, lN_add, lN_add]
      have hV : G 0 a + G 1 b + G 2 k + G 3 (q - a - b - k) = gb_V G (a, b, k, q - a - b - k) := rfl
      have hVb : gb_V G (a, b, k, q - a - b - k) ≤ 16000000000 := by rw [← hV]; omega
      have hok : gb_ok q mo (a, b, k, q - a - b - k) := ⟨by show a + b + k + (q - a - b - k) = q; omega, ha, hb, by show k ≤ mo 2; omega, by show q - a - b - k ≤ mo 3; omega⟩
      have hnew := gb_bst_add hbst hok (fun t' _ hp => by
        unfold gb_Pc at hp
        show a < t'.1 ∨ (t'.1 = a ∧ (b < t'.2.1 ∨ (t'.2.1 = b ∧ k < t'.2.2.1)))
        omega)
      have hnew' : gb_bst q mo G W (gb_Pc a b k) (gb_pick G W acc (a, b, k, q - a - b - k)) := gb_bst_cg hnew (fun t ht => by
        obtain ⟨t1, t2, t3, t4, t5⟩ := ht
        unfold gb_Pc
        constructor
        · intro h
          rcases h with h | h
          · omega
          · rw [h]
            exact Or.inr ⟨rfl, Or.inr ⟨rfl, Nat.le_refl _⟩⟩
        · intro h
          by_cases e : t.1 = a ∧ t.2.1 = b ∧ t.2.2.1 = k
          · refine Or.inr (Prod.ext e.1 (Prod.ext e.2.1 (Prod.ext e.2.2 ?_)))
            show t.2.2.2 = q - a - b - k
            omega
          · exact Or.inl (by omega))
      rw [hV, gb_l_lt (by omega) (by omega)]
      unfold gb_pick at hnew'
      have skip : gb_bst q mo G W (gb_Pc a b k) acc → ∃ S' acc', sX1_tryAll_188 N kc12 kc36 (sX1_tryAll_81 N kc12 kc36 fu) (nI q) (lN W) (nI a) l5 (nI b) (nI (q - a - b)) (lN (G 0 a + G 1 b)) (nI k) S = sX1_tryAll_194 N kc12 kc36 (nI q) (lN W) (nI a) l5 (nI b) S' ∧ gb_rc S' acc' ∧ gb_bst q mo G W (gb_Pb a b) acc' ∧ gh_fr gb_CT S S' := by
        intro hb
        unfold sX1_tryAll_188
        rw [gb_zpred]
        exact ih fu S acc (by omega) (by omega) (by omega) hm hr hb
      by_cases hw : gb_V G (a, b, k, q - a - b - k) < W
      · rw [decide_eq_true hw, cond_true]
        rw [if_pos hw] at hnew'
        exact skip hnew'
      · rw [decide_eq_false hw, cond_false]
        rw [if_neg hw] at hnew'
        have take : gb_bst q mo G W (gb_Pc a b k) (some (gb_V G (a, b, k, q - a - b - k), (a, b, k, q - a - b - k))) → ∃ S' acc', ((gh_wa (gh_fL S 37 5 (lN (gb_V G (a, b, k, q - a - b - k)))) 41 4 0 (nI a)).bind fun S4 => (gh_wa S4 41 4 1 (nI b)).bind fun S5 => (gh_wa S5 41 4 2 (nI k)).bind fun S6 => (gh_wa S6 41 4 3 (nI (q - a - b - k))).bind fun S7 => (sX1_tryAll_81 N kc12 kc36 fu) (nI q) (lN W) (nI a) l5 (nI b) (nI (q - a - b)) (lN (G 0 a + G 1 b)) (nI k + (-1)) S7) = sX1_tryAll_194 N kc12 kc36 (nI q) (lN W) (nI a) l5 (nI b) S' ∧ gb_rc S' acc' ∧ gb_bst q mo G W (gb_Pb a b) acc' ∧ gh_fr gb_CT S S' := by
          intro hb
          have w0 : ∀ (T : gh_St) (x : Int32), gh_wa T 41 4 0 x = some (gh_fI T 41 0 x) := fun T x => gh_wa_n (k := 0) (by omega) (by decide)
          have w1 : ∀ (T : gh_St) (x : Int32), gh_wa T 41 4 1 x = some (gh_fI T 41 1 x) := fun T x => gh_wa_n (k := 1) (by omega) (by decide)
          have w2 : ∀ (T : gh_St) (x : Int32), gh_wa T 41 4 2 x = some (gh_fI T 41 2 x) := fun T x => gh_wa_n (k := 2) (by omega) (by decide)
          have w3 : ∀ (T : gh_St) (x : Int32), gh_wa T 41 4 3 x = some (gh_fI T 41 3 x) := fun T x => gh_wa_n (k := 3) (by omega) (by decide)
          rw [w0, gq_bs, w1, gq_bs, w2, gq_bs, w3, gq_bs, gb_zpred]
          have f1 : gh_fr gb_CT S (gh_fI (gh_fI (gh_fI (gh_fI (gh_fL S 37 5 (lN (gb_V G (a, b, k, q - a - b - k)))) 41 0 (nI a)) 41 1 (nI b)) 41 2 (nI k)) 41 3 (nI (q - a - b - k))) := by
            repeat first | exact gh_fr_refl _ _ | refine gh_fr_fI ?_ rfl | refine gh_fr_fL ?_ rfl
          obtain ⟨S', acc', a1, a2, a3, a4⟩ := ih fu _ (some (gb_V G (a, b, k, q - a - b - k), (a, b, k, q - a - b - k))) (by omega) (by omega) (by omega) (gb_mem_fr hm f1) ⟨by simp [gh_fI_2, gh_fL_1], hVb, by simp [gh_fI_1], by simp [gh_fI_1], by simp [gh_fI_1], by simp [gh_fI_1]⟩ hb
          exact ⟨S', acc', a1, a2, a3, gh_fr_trans f1 a4⟩
        cases acc with
        | none =>
          rw [show S.2.1 37 5 = lN 1000000000000 from hr, gb_l_ge (by omega) (by omega), decide_eq_false (by omega), cond_false]
          exact take hnew'
        | some x =>
          obtain ⟨v, t⟩ := x
          have hr1 := hr.1
          have hr2 := hr.2.1
          have hnew' : gb_bst q mo G W (gb_Pc a b k) (if gb_V G (a, b, k, q - a - b - k) < v then some (gb_V G (a, b, k, q - a - b - k), (a, b, k, q - a - b - k)) else some (v, t)) := hnew'
          rw [hr1, gb_l_ge (by omega) (by omega)]
          by_cases hv : gb_V G (a, b, k, q - a - b - k) < v
          · rw [decide_eq_false (by omega), cond_false]
            rw [if_pos hv] at hnew'
            exact take hnew'
          · rw [decide_eq_true (by omega), cond_true]
            rw [if_neg hv] at hnew'
            exact skip hnew'
theorem gb_min {x y : Nat} (hx : x < 2 ^ 31) (hy : y < 2 ^ 31) : gh_min (nI x) (nI y) = gq_Z (((min x y + 1 : Nat) : Int) - 1) := by
  rw [gq_min_n hx hy, gb_zs]
theorem gb_t36 (hN : 100 ≤ N) (hW : W < 2 ^ 62) (hq : q ≤ 20) {a : Nat} (haq : a ≤ q) (ha : a ≤ mo 0) (kc12 : Int32 → Int64 → Int32 → gh_St → Option gh_St) : ∀ (k fu : Nat) (S : gh_St) (acc : Option (Nat × Nat × Nat × Nat × Nat)), k < fu → k ≤ mo 1 + 1 → k ≤ q - a + 1 → gb_mem S mo G → gb_rc S acc → gb_bst q mo G W (gb_Pb a k) acc → ∃ S' acc', sX1_tryAll_36 N kc12 fu (nI q) (lN W) (nI a) (nI (q - a)) (gq_Z ((k : Int) - 1)) S = kc12 (nI q) (lN W) (nI a + (-1)) S' ∧ gb_rc S' acc' ∧ gb_bst q mo G W (fun t => a ≤ t.1) acc' ∧ gh_fr gb_CT S S' := by
  intro k
  induction k with
  | zero =>
    intro fu S acc hfu hk1 hk2 hm hr hbst
    obtain ⟨fu, rfl⟩ : ∃ w, fu = w + 1 := ⟨fu - 1, by omega⟩
    rw [sX1_tryAll_36, gb_z0, cond_true]
    refine ⟨S, acc, rfl, hr, gb_bst_cg hbst (fun t _ => ?_), gh_fr_refl _ _⟩
    unfold gb_Pb
    omega
  | succ k ih =>
    intro fu S acc hfu hk1 hk2 hm hr hbst
    obtain ⟨fu, rfl⟩ : ∃ w, fu = w + 1 := ⟨fu - 1, by omega⟩
    have m0 := hm 0 (by omega)
    have m1 := hm 1 (by omega)
    have m2 := hm 2 (by omega)
    have e2 : gh_ra S 39 4 2 = some (nI (mo 2)) := (gh_ra_n (k := 2) (by omega) (by decide)).trans (by rw [m2.1])
    have r0 : gh_rj S 40 84 (nI a) = some (lN (G 0 a)) := by
      rw [gh_rj_n (by omega) (by decide)]
      have := (m0.2.2 a ha).1
      rw [Nat.mul_zero, Nat.zero_add] at this
      exact congrArg some this
    have r1 : gh_rj S 40 84 ((21 : Int32) + nI k) = some (lN (G 1 k)) := by
      rw [show (21 : Int32) = nI 21 from rfl, nI_add, gh_rj_n (by omega) (by decide)]
      exact congrArg some (m1.2.2 k (by omega)).1
    rw [gb_zs, sX1_tryAll_36, gb_n0 (by omega), cond_false, r0, gq_bs, r1, gq_bs, e2, gq_bs, lN_add, pk_sub (by omega), gb_min (by omega) (by omega)]
    obtain ⟨S1, acc1, a1, a2, a3, a4⟩ := gb_t81 (q := q) (mo := mo) (G := G) (W := W) N hW hq (a := a) (b := k) (by omega) ha (by omega) kc12 (sX1_tryAll_36 N kc12 fu) (nI (q - a)) (min (q - a - k) (mo 2) + 1) N S acc (by omega) (by omega) (by omega) hm hr (gb_bst_cg hbst (fun t ht => by
      obtain ⟨t1, t2, t3, t4, t5⟩ := ht
      unfold gb_Pb gb_Pc
      omega))
    rw [a1]
    unfold sX1_tryAll_194
    rw [gb_zpred]
    obtain ⟨S2, acc2, b1, b2, b3, b4⟩ := ih fu S1 acc1 (by omega) (by omega) (by omega) (gb_mem_fr hm a4) a2 a3
    exact ⟨S2, acc2, b1, b2, b3, gh_fr_trans a4 b4⟩
theorem gb_t12 (hN : 100 ≤ N) (hW : W < 2 ^ 62) (hq : q ≤ 20) : ∀ (k fu : Nat) (S : gh_St) (acc : Option (Nat × Nat × Nat × Nat × Nat)), k < fu → k ≤ mo 0 + 1 → k ≤ q + 1 → gb_mem S mo G → gb_rc S acc → gb_bst q mo G W (fun t => k ≤ t.1) acc → ∃ S' acc', sX1_tryAll_12 N fu (nI q) (lN W) (gq_Z ((k : Int) - 1)) S = some S' ∧ gb_rc S' acc' ∧ gb_bst q mo G W (fun _ => True) acc' ∧ gh_fr gb_CT S S' := by
  intro k
  induction k with
  | zero =>
    intro fu S acc hfu hk1 hk2 hm hr hbst
    obtain ⟨fu, rfl⟩ : ∃ w, fu = w + 1 := ⟨fu - 1, by omega⟩
    rw [sX1_tryAll_12, gb_z0, cond_true]
    exact ⟨S, acc, rfl, hr, gb_bst_cg hbst (fun t _ => ⟨fun _ => trivial, fun _ => Nat.zero_le _⟩), gh_fr_refl _ _⟩
  | succ k ih =>
    intro fu S acc hfu hk1 hk2 hm hr hbst
    obtain ⟨fu, rfl⟩ : ∃ w, fu = w + 1 := ⟨fu - 1, by omega⟩
    have m1 := hm 1 (by omega)
    have e1 : gh_ra S 39 4 1 = some (nI (mo 1)) := (gh_ra_n (k := 1) (by omega) (by decide)).trans (by rw [m1.1])
    rw [gb_zs, sX1_tryAll_12, gb_n0 (by omega), cond_false, e1, gq_bs, pk_sub (by omega), gb_min (by omega) (by omega)]
    obtain ⟨S1, acc1, a1, a2, a3, a4⟩ := gb_t36 (q := q) (mo := mo) (G := G) (W := W) N hN hW hq (a := k) (by omega) (by omega) (sX1_tryAll_12 N fu) (min (q - k) (mo 1) + 1) N S acc (by omega) (by omega) (by omega) hm hr (gb_bst_cg hbst (fun t ht => by
      obtain ⟨t1, t2, t3, t4, t5⟩ := ht
      unfold gb_Pb
      omega))
    rw [a1, gb_zpred]
    obtain ⟨S2, acc2, b1, b2, b3, b4⟩ := ih fu S1 acc1 (by omega) (by omega) (by omega) (gb_mem_fr hm a4) a2 a3
    exact ⟨S2, acc2, b1, b2, b3, gh_fr_trans a4 b4⟩
theorem gb_tryAll (hN : 100 ≤ N) (hW : W < 2 ^ 62) (hq : q ≤ 20) {S : gh_St} (hm : gb_mem S mo G) (hr : gb_rc S none) : ∃ S' acc', sX1_tryAll N (nI q) (lN W) S = some S' ∧ gb_rc S' acc' ∧ gb_bst q mo G W (fun _ => True) acc' ∧ gh_fr gb_CT S S' := by
  have m0 := hm 0 (by omega)
  have e0 : gh_ra S 39 4 0 = some (nI (mo 0)) := (gh_ra_n (k := 0) (by omega) (by decide)).trans (by rw [m0.1])
  unfold sX1_tryAll
  rw [e0, gq_bs, gb_min (by omega) (by omega)]
  exact gb_t12 N hN hW hq (min q (mo 0) + 1) N S none (by omega) (by omega) (by omega) hm hr (fun t ht hp => by
    obtain ⟨t1, t2, t3, t4, t5⟩ := ht
    omega)
end GbC
