/-! ===== THE NET: the reference's fixed point ===== -/
def gq_vr (S : gh_St) (D : Nat → Nat) : gh_St := (fun c k => if c = 83 ∧ k < 12 then nI (D k) else S.1 c k, S.2)
theorem gq_vr_1 (S : gh_St) (f : Nat → Nat) (c k : Nat) : (gq_vr S f).1 c k = if c = 83 ∧ k < 12 then nI (f k) else S.1 c k := rfl
theorem gq_vr_r (S : gh_St) (f : Nat → Nat) {k : Nat} (h : k < 12) : (gq_vr S f).1 83 k = nI (f k) := if_pos ⟨rfl, h⟩
theorem gq_vr_fI (S : gh_St) (f : Nat → Nat) {i : Nat} (x : Nat) (hi : i < 12) : gh_fI (gq_vr S f) 83 i (nI x) = gq_vr S (gh_nu f i x) := by
  refine Prod.ext ?_ rfl
  funext c k
  rw [gh_fI_1, gq_vr_1, gq_vr_1]
  unfold gh_nu
  by_cases hc : c = 83
  · by_cases hk : k = i
    · simp [hc, hk, hi]
    · simp [hc, hk]
  · simp [hc]
def gq_ls (D : Nat → Nat) (x y w b : Nat) : Nat → Nat := if (y ≠ b ∧ y < 8) ∨ D x ≤ D y + w then D else gh_nu D x (D y + w)
theorem gq_lessens (N : Nat) {S : gh_St} {n : Nat} {A B M la : Nat → Nat} {cl u : Nat} (h : gq_RR S n A B M la cl u) {D : Nat → Nat} {x y k q b : Nat} (hx : x < 12) (hy : y < 12) (hk : k < 20) (hq : q ≤ 3) (hb : b < 8) (hD : ∀ v, v < 12 → D v ≤ 100000000) : sX10_lessens N (nI x) (nI y) (nI k) (nI q) (nI b) (gq_vr S D) = some (gq_B (decide (¬ ((y ≠ b ∧ y < 8) ∨ D x ≤ D y + (100 * gq_cst M la cl q k + 1)))), gq_vr S (gq_ls D x y (100 * gq_cst M la cl q k + 1) b)) := by
  have hc := gq_cst_leR h (q := q) hk
  obtain ⟨h1, h2, h3, h4, h5, h6, h7, h8, h9⟩ := h
  obtain ⟨l1, l2, l3, l4, l5, l6, l7, l8, l9, l10, l11, l12, l13⟩ := h9 k hk
  have hcost : ∀ g : Nat → Nat, sX10_legCost N (nI k) (nI q) (gq_vr S g) = some (nI (100 * gq_cst M la cl q k + 1), gq_vr S g) := fun g => gq_legCost N hk hq l6 l8 h6 l12
  have d1 := hD x hx
  have d2 := hD y hy
  have hw : 100 * gq_cst M la cl q k + 1 ≤ 20000 := by omega
  generalize 100 * gq_cst M la cl q k + 1 = w at *
  have e12 : sX10_lessens_12 N (nI x) (nI y) (nI k) (nI q) (gq_vr S D) = some (gq_B (decide (¬ (D x ≤ D y + w))), gq_vr S (if D x ≤ D y + w then D else gh_nu D x (D y + w))) := by
    unfold sX10_lessens_12
    simp only [hcost, gq_bs, gh_ra_n hx (show 12 < 2 ^ 31 by decide), gh_ra_n hy (show 12 < 2 ^ 31 by decide), gh_wa_n hx (show 12 < 2 ^ 31 by decide), gq_vr_r _ _ hx, gq_vr_r _ _ hy, nI_add]
    rw [gh_n_lt (by omega) (by omega)]
    by_cases e : D x ≤ D y + w
    · rw [decide_eq_false (by omega), cond_false, decide_eq_false (by omega), if_pos e]
      rfl
    · rw [decide_eq_true (by omega), cond_true, decide_eq_true (by omega), if_neg e, gq_vr_fI _ _ _ hx]
      rfl
  unfold sX10_lessens
  rw [e12, gh_n_eq (by omega) (by omega), show (8 : Int32) = nI 8 from rfl, gh_n_lt (by omega) (by omega)]
  unfold gq_ls
  by_cases a1 : y = b
  · rw [decide_eq_true a1, cond_true]
    simp [a1]
  · rw [decide_eq_false a1, cond_false]
    by_cases a2 : y < 8
    · rw [decide_eq_true a2, cond_true]
      simp [a1, a2]
      rfl
    · rw [decide_eq_false a2, cond_false]
      simp [a1, a2]
/-- what every round of lessening keeps -/
def gq_J (n : Nat) (A B c : Nat → Nat) (b : Nat) (D : Nat → Nat) : Prop :=
  D b = 0 ∧ (∀ v, v < 12 → D v ≤ 100000000) ∧ (∀ v, v < 12 → v ≠ b → D v < 100000000 → ∃ k w, k < n ∧ gq_jn A B k v w ∧ (w = b ∨ 8 ≤ w) ∧ D w + (100 * c k + 1) ≤ D v)
theorem gq_J_ls {n : Nat} {A B c : Nat → Nat} {b : Nat} {D : Nat → Nat} (hJ : gq_J n A B c b D) {k x y : Nat} (hk : k < n) (hj : gq_jn A B k x y) (hne : x ≠ y) (hx : x < 12) : gq_J n A B c b (gq_ls D x y (100 * c k + 1) b) ∧ ((y ≠ b ∧ y < 8) ∨ D x ≤ D y + (100 * c k + 1) → gq_ls D x y (100 * c k + 1) b = D) ∧ (¬ ((y ≠ b ∧ y < 8) ∨ D x ≤ D y + (100 * c k + 1)) → gh_sm (gq_ls D x y (100 * c k + 1) b) 12 < gh_sm D 12) := by
  unfold gq_ls
  by_cases h : (y ≠ b ∧ y < 8) ∨ D x ≤ D y + (100 * c k + 1)
  · rw [if_pos h]
    exact ⟨hJ, fun _ => rfl, fun h2 => absurd h h2⟩
  · rw [if_neg h]
    obtain ⟨j1, j2, j3⟩ := hJ
    have hxb : x ≠ b := by
      intro e
      rw [e, j1] at h
      omega
    have hle : ∀ v, gh_nu D x (D y + (100 * c k + 1)) v ≤ D v := by
      intro v
      unfold gh_nu
      split
      · rename_i e
        subst e
        omega
      · exact Nat.le_refl _
    refine ⟨⟨by rw [gh_nu_n _ _ (fun e => hxb e.symm)]; exact j1, fun v hv => Nat.le_trans (hle v) (j2 v hv), fun v hv hvb hlt => ?_⟩, fun h2 => absurd h2 h, fun _ => ?_⟩
    · by_cases e : v = x
      · subst e
        refine ⟨k, y, hk, hj, by omega, ?_⟩
        rw [gh_nu_s, gh_nu_n _ _ (fun e => hne e.symm)]
        exact Nat.le_refl _
      · rw [gh_nu_n _ _ e] at hlt ⊢
        obtain ⟨k', w, a1, a2, a3, a4⟩ := j3 v hv hvb hlt
        exact ⟨k', w, a1, a2, a3, Nat.le_trans (Nat.add_le_add_right (hle w) _) a4⟩
    · have := gh_sm_nu D x (D y + (100 * c k + 1)) 12 hx
      omega
section GqGoes
variable {S : gh_St} {n : Nat} {A B M la : Nat → Nat} {cl u : Nat} (N : Nat) {q b : Nat}
theorem gq_goes42 (h : gq_RR S n A B M la cl u) (hq : q ≤ 3) (hb : b < 8) (kc : Int32 → Int32 → Int32 → gh_St → Option gh_St) : ∀ (fu k : Nat) (D : Nat → Nat) (fl : Bool), k ≤ n → n - k < fu → gq_J n A B (gq_cst M la cl q) b D → ∃ D' fl', sX10_goes_42 N kc fu (nI q) (nI b) (gq_B fl) (nI k) (gq_vr S D) = kc (nI q) (nI b) (gq_B fl') (gq_vr S D') ∧ gq_J n A B (gq_cst M la cl q) b D' ∧ gh_sm D' 12 ≤ gh_sm D 12 ∧ (fl' = true → fl = true ∨ gh_sm D' 12 < gh_sm D 12) ∧ (fl' = false → D' = D ∧ fl = false ∧ ∀ k' v w, k ≤ k' → k' < n → gq_jn A B k' v w → (w = b ∨ 8 ≤ w) → D v ≤ D w + (100 * gq_cst M la cl q k' + 1)) := by
  intro fu
  induction fu with
  | zero => intro k D fl _ h; omega
  | succ fu ih =>
    intro k D fl hk hfu hJ
    have hR := h
    obtain ⟨h1, h2, h3, h4, h5, h6, h7, h8, h9⟩ := h
    rw [sX10_goes_42, gq_vr_1, if_neg (by omega), h4, gh_n_ge (by omega) (by omega)]
    by_cases e : k = n
    · subst e
      rw [decide_eq_true (Nat.le_refl _)]
      exact ⟨D, fl, rfl, hJ, Nat.le_refl _, fun h => Or.inl h, fun h => ⟨rfl, h, fun k' v w a1 a2 => by omega⟩⟩
    · have hk20 : k < 20 := by omega
      obtain ⟨l1, l2, l3, l4, l5, l6, l7, l8, l9, l10, l11, l12, l13⟩ := h9 k hk20
      have hne := (l13 (by omega)).1
      rw [decide_eq_false (by omega), cond_false, gh_ra_n hk20 (by decide), gq_bs, gh_ra_n hk20 (by decide), gq_bs]
      simp only [gq_vr_1, Nat.reduceEqDiff, false_and, if_false, l2, l4]
      rw [gq_lessens N hR l9 l10 hk20 hq hb hJ.2.1, gq_bs, gh_ra_n hk20 (by decide), gq_bs, gh_ra_n hk20 (by decide), gq_bs]
      obtain ⟨p1, p2, p3⟩ := gq_J_ls hJ (show k < n by omega) (Or.inl ⟨rfl, rfl⟩ : gq_jn A B k (A k) (B k)) hne l9
      generalize hD1 : gq_ls D (A k) (B k) (100 * gq_cst M la cl q k + 1) b = D1 at p1 p2 p3 ⊢
      simp only [gq_vr_1, Nat.reduceEqDiff, false_and, if_false, l2, l4]
      rw [gq_lessens N hR l10 l9 hk20 hq hb p1.2.1, gq_bs]
      obtain ⟨r1, r2, r3⟩ := gq_J_ls p1 (show k < n by omega) (Or.inr ⟨rfl, rfl⟩ : gq_jn A B k (B k) (A k)) (fun e => hne e.symm) l10
      generalize hD2 : gq_ls D1 (B k) (A k) (100 * gq_cst M la cl q k + 1) b = D2 at r1 r2 r3 ⊢
      unfold sX10_goes_118 sX10_goes_113 sX10_goes_118
      simp only [gq_B_ne, gq_B_eq, nI_1]
      have go : ∀ fl2 : Bool, (fl2 = true → fl = true ∨ gh_sm D2 12 < gh_sm D 12) → (fl2 = false → D2 = D ∧ fl = false ∧ ∀ v w, gq_jn A B k v w → (w = b ∨ 8 ≤ w) → D v ≤ D w + (100 * gq_cst M la cl q k + 1)) → gh_sm D2 12 ≤ gh_sm D 12 → ∃ D' fl', sX10_goes_42 N kc fu (nI q) (nI b) (gq_B fl2) (nI (k + 1)) (gq_vr S D2) = kc (nI q) (nI b) (gq_B fl') (gq_vr S D') ∧ gq_J n A B (gq_cst M la cl q) b D' ∧ gh_sm D' 12 ≤ gh_sm D 12 ∧ (fl' = true → fl = true ∨ gh_sm D' 12 < gh_sm D 12) ∧ (fl' = false → D' = D ∧ fl = false ∧ ∀ k' v w, k ≤ k' → k' < n → gq_jn A B k' v w → (w = b ∨ 8 ≤ w) → D v ≤ D w + (100 * gq_cst M la cl q k' + 1)) := by
        intro fl2 g1 g2 g3
        obtain ⟨D', fl', i1, i2, i3, i4, i5⟩ := ih (k + 1) D2 fl2 (by omega) (by omega) r1
        refine ⟨D', fl', i1, i2, by omega, fun hf => ?_, fun hf => ?_⟩
        · rcases i4 hf with hh | hh
          · rcases g1 hh with h' | h'
            · exact Or.inl h'
            · exact Or.inr (by omega)
          · exact Or.inr (by omega)
        · obtain ⟨j1, j2, j3⟩ := i5 hf
          obtain ⟨t1, t2, t3⟩ := g2 j2
          refine ⟨j1.trans t1, t2, fun k' v w a1 a2 a3 a4 => ?_⟩
          by_cases ek : k' = k
          · subst ek
            exact t3 v w a3 a4
          · have := j3 k' v w (by omega) a2 a3 a4
            rw [t1] at this
            exact this
      by_cases c1 : (B k ≠ b ∧ B k < 8) ∨ D (A k) ≤ D (B k) + (100 * gq_cst M la cl q k + 1)
      · have e1 := p2 c1
        rw [decide_eq_false (not_not_intro c1), cond_false]
        by_cases c2 : (A k ≠ b ∧ A k < 8) ∨ D1 (B k) ≤ D1 (A k) + (100 * gq_cst M la cl q k + 1)
        · have e2 := r2 c2
          rw [decide_eq_false (not_not_intro c2), Bool.not_false, cond_true]
          cases fl with
          | true => exact go true (fun _ => Or.inl rfl) (fun h => by cases h) (by rw [e2, e1]; exact Nat.le_refl _)
          | false =>
            refine go false (fun h => by cases h) (fun _ => ⟨e2.trans e1, rfl, fun v w a1 a2 => ?_⟩) (by rw [e2, e1]; exact Nat.le_refl _)
            rw [e1] at c2
            rcases a1 with ⟨b1, b2⟩ | ⟨b1, b2⟩
            · rw [← b1, ← b2]
              rw [← b2] at a2
              omega
            · rw [← b1, ← b2]
              rw [← b2] at a2
              omega
        · have e2 := r3 c2
          rw [decide_eq_true c2, Bool.not_true, cond_false]
          rw [e1] at e2
          cases fl with
          | true => exact go true (fun _ => Or.inl rfl) (fun h => by cases h) (by omega)
          | false => exact go true (fun _ => Or.inr e2) (fun h => by cases h) (by omega)
      · have e1 := p3 c1
        have e2 : gh_sm D2 12 ≤ gh_sm D1 12 := by
          by_cases c2 : (A k ≠ b ∧ A k < 8) ∨ D1 (B k) ≤ D1 (A k) + (100 * gq_cst M la cl q k + 1)
          · rw [r2 c2]
            exact Nat.le_refl _
          · exact Nat.le_of_lt (r3 c2)
        rw [decide_eq_true c1, cond_true]
        cases fl with
        | true => exact go true (fun _ => Or.inl rfl) (fun h => by cases h) (by omega)
        | false => exact go true (fun _ => Or.inr (by omega)) (fun h => by cases h) (by omega)
theorem gq_goes33 (h : gq_RR S n A B M la cl u) (hN : 100 ≤ N) (hq : q ≤ 3) (hb : b < 8) : ∀ (s fu : Nat) (D : Nat → Nat) (fl : Bool), gh_sm D 12 ≤ s → s + 1 < fu → gq_J n A B (gq_cst M la cl q) b D → (fl = false → gq_isD n A B (gq_cst M la cl q) b D) → ∃ D', sX10_goes_33 N fu (nI q) (nI b) (gq_B fl) (gq_vr S D) = some (gq_vr S D') ∧ gq_isD n A B (gq_cst M la cl q) b D' := by
  intro s
  induction s using Nat.strongRecOn with
  | ind s ih =>
    intro fu D fl hs hfu hJ hfl
    obtain ⟨fu, rfl⟩ : ∃ f, fu = f + 1 := ⟨fu - 1, by omega⟩
    rw [sX10_goes_33, gq_B_eq]
    cases fl with
    | false => exact ⟨D, rfl, hfl rfl⟩
    | true =>
      rw [Bool.not_true, cond_false]
      obtain ⟨D', fl', i1, i2, i3, i4, i5⟩ := gq_goes42 N h hq hb (sX10_goes_33 N fu) N 0 D false (by omega) (by have := h.1; omega) hJ
      rw [show (0 : Int32) = gq_B false from rfl, show gq_B false = nI 0 from rfl] at *
      rw [i1]
      cases fl' with
      | false =>
        obtain ⟨j1, j2, j3⟩ := i5 rfl
        obtain ⟨fu, rfl⟩ : ∃ f, fu = f + 1 := ⟨fu - 1, by omega⟩
        rw [sX10_goes_33]
        refine ⟨D', rfl, ?_⟩
        obtain ⟨a1, a2, a3⟩ := i2
        rw [j1] at a1 a2 a3 ⊢
        refine ⟨a1, a2, fun v hv hvb hlt => ?_, fun v k w hv hk hj hok => j3 k v w (by omega) hk hj hok⟩
        obtain ⟨k, w, b1, b2, b3, b4⟩ := a3 v hv hvb hlt
        exact ⟨k, w, b1, b2, b3, Nat.le_antisymm (j3 k v w (by omega) b1 b2 b3) b4⟩
      | true =>
        rcases i4 rfl with hh | hh
        · cases hh
        · exact ih (gh_sm D' 12) (by omega) fu D' true (Nat.le_refl _) (by omega) i2 (fun h => by cases h)
end GqGoes
