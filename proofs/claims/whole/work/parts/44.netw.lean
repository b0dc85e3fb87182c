/-! ===== goes, isWay ===== -/
def gq_D0 (b : Nat) : Nat → Nat := fun v => if v = b then 0 else 100000000
def gq_vg (S : gh_St) (b m : Nat) : gh_St := (fun c k => if c = 83 ∧ k < m then nI (gq_D0 b k) else S.1 c k, S.2)
theorem gq_vg_fI (S : gh_St) (b m : Nat) : gh_fI (gq_vg S b m) 83 m (nI (gq_D0 b m)) = gq_vg S b (m + 1) := by
  refine Prod.ext ?_ rfl
  funext c k
  rw [gh_fI_1]
  show _ = if c = 83 ∧ k < m + 1 then nI (gq_D0 b k) else S.1 c k
  by_cases hc : c = 83
  · by_cases hk : k = m
    · simp [hc, hk]
    · have : (k < m + 1) = (k < m) := by rw [eq_iff_iff]; omega
      simp [hc, hk, this, gq_vg]
  · simp [hc, gq_vg]
section GqWay
variable {S : gh_St} {n : Nat} {A B M la : Nat → Nat} {cl u : Nat} (N : Nat) {q a b : Nat}
theorem gq_goes2 (hb : b < 8) : ∀ (fu m : Nat), m ≤ 12 → 12 - m < fu → sX10_goes_2 N fu (nI q) (nI b) (nI m) (gq_vg S b m) = sX10_goes_33 N N (nI q) (nI b) 1 (gq_vr S (gq_D0 b)) := by
  intro fu
  induction fu with
  | zero => intro m _ h; omega
  | succ fu ih =>
    intro m hm hfu
    rw [sX10_goes_2, show (12 : Int32) = nI 12 from rfl, gh_n_ge (by omega) (by omega)]
    by_cases e : m = 12
    · subst e
      rw [decide_eq_true (Nat.le_refl _)]
      rfl
    · rw [decide_eq_false (by omega), cond_false, gh_n_ne (by omega) (by omega)]
      have hD : nI (gq_D0 b m) = if m = b then 0 else 100000000 := by
        unfold gq_D0
        split <;> rfl
      have hs := gq_vg_fI S b m
      have ih1 := ih (m + 1) (by omega) (by omega)
      unfold sX10_goes_24
      rw [hD] at hs
      by_cases e2 : m = b
      · rw [decide_eq_false (by omega), cond_false, gh_wa_n (by omega) (by decide), gq_bs, nI_1]
        rw [if_pos e2] at hs
        rw [hs]
        exact ih1
      · rw [decide_eq_true e2, cond_true, gh_wa_n (by omega) (by decide), gq_bs, nI_1]
        rw [if_neg e2] at hs
        rw [hs]
        exact ih1
theorem gq_D0_J (hb : b < 8) (c : Nat → Nat) : gq_J n A B c b (gq_D0 b) := by
  refine ⟨if_pos rfl, fun v _ => ?_, fun v _ hvb h => ?_⟩
  · unfold gq_D0
    split <;> omega
  · unfold gq_D0 at h
    rw [if_neg hvb] at h
    omega
theorem gq_D0_sm (hb : b < 8) : gh_sm (gq_D0 b) 12 ≤ 1200000000 := by
  have : ∀ m, gh_sm (gq_D0 b) m ≤ 100000000 * m := by
    intro m
    induction m with
    | zero => exact Nat.le_refl _
    | succ m ih =>
      rw [gh_sm]
      have : gq_D0 b m ≤ 100000000 := by
        unfold gq_D0
        split <;> omega
      omega
  exact this 12
theorem gq_goes (h : gq_RR S n A B M la cl u) (hN : 2000000000 ≤ N) (hq : q ≤ 3) (hb : b < 8) : ∃ D, sX10_goes N (nI q) (nI b) S = some (gq_vr S D) ∧ gq_isD n A B (gq_cst M la cl q) b D := by
  unfold sX10_goes
  have e : gq_vg S b 0 = S := by
    refine Prod.ext ?_ rfl
    funext c k
    show (if c = 83 ∧ k < 0 then _ else S.1 c k) = _
    rw [if_neg (by omega)]
  have h2 := gq_goes2 (S := S) N (q := q) hb N 0 (by omega) (by omega)
  rw [e] at h2
  rw [show (0 : Int32) = nI 0 from rfl, h2]
  have h3 := gq_D0_sm hb
  exact gq_goes33 N h (by omega) hq hb 1200000000 N (gq_D0 b) true h3 (by omega) (gq_D0_J hb _) (fun h => by cases h)
theorem gq_isWay (h : gq_RR S n A B M la cl u) (hN : 2000000000 ≤ N) (hq : q ≤ 3) (ha : a < 8) (hb : b < 8) (hab : a ≠ b) : ∃ D, sX10_isWay N (nI q) (nI a) (nI b) S = some (gq_B (decide (D a < 100000000)), gq_vr S D) ∧ gq_isD n A B (gq_cst M la cl q) b D := by
  obtain ⟨D, h1, h2⟩ := gq_goes N h hN hq hb
  refine ⟨D, ?_, h2⟩
  have k1 : gh_rg (nI q).toInt 0 3 = true := gq_nrg (by omega) (by omega) (by omega)
  have k2 : gh_rg (nI a).toInt 0 7 = true := gq_nrg (by omega) (by omega) (by omega)
  have k3 : gh_rg (nI b).toInt 0 7 = true := gq_nrg (by omega) (by omega) (by omega)
  have k4 : gh_cmp .ne (nI a) (nI b) = true := by rw [gh_n_ne (by omega) (by omega), decide_eq_true hab]
  have hDa := h2.2.1 a (by omega)
  have k5 : gh_cmp .ge (nI (D a)) 100000000 = decide (100000000 ≤ D a) := gh_n_ge (b := 100000000) (by omega) (by decide)
  simp only [sX10_isWay, gq_bs, gq_B_eq, gq_B_ne, gq_B_gB, Bool.not_true, Bool.not_false, Bool.true_and, Bool.false_and, Bool.and_true, Bool.and_false, cond_true, cond_false, gh_isBin9, gh_isKind9, gh_isFarmer9, gh_within, gh_inR, gh_isBin10, gh_isKind10, Int32.toInt_toInt64, Int32.reduceToInt, Int64.reduceToInt, decide_true, decide_false, k1, k2, k3, k4, h1, gh_ra_n (show a < 12 by omega) (show 12 < 2 ^ 31 by decide), gq_vr_r _ _ (show a < 12 by omega), k5]
  by_cases e : D a < 100000000
  · rw [decide_eq_true e, decide_eq_false (by omega)]
    rfl
  · rw [decide_eq_false e, decide_eq_true (by omega)]
    rfl
end GqWay
/-! ===== the first leg ===== -/
def gq_fs (p : Nat → Bool) : Nat → Nat → Nat
  | 0, k => k
  | m + 1, k => bif p k then k else gq_fs p m (k + 1)
theorem gq_fs_le (p : Nat → Bool) : ∀ m k, k ≤ gq_fs p m k ∧ gq_fs p m k ≤ k + m := by
  intro m
  induction m with
  | zero => intro k; exact ⟨Nat.le_refl _, Nat.le_refl _⟩
  | succ m ih =>
    intro k
    rw [gq_fs]
    cases p k with
    | true => rw [cond_true]; omega
    | false => rw [cond_false]; have := ih (k + 1); omega
theorem gq_fs_ex {p : Nat → Bool} : ∀ {m k j : Nat}, k ≤ j → j < k + m → p j = true → gq_fs p m k < k + m ∧ p (gq_fs p m k) = true := by
  intro m
  induction m with
  | zero => intro k j h1 h2; omega
  | succ m ih =>
    intro k j h1 h2 h3
    rw [gq_fs]
    cases e : p k with
    | true => rw [cond_true]; exact ⟨by omega, e⟩
    | false =>
      rw [cond_false]
      have : k ≠ j := fun q => by rw [q, h3] at e; cases e
      have := ih (k := k + 1) (j := j) (by omega) (by omega) h3
      exact ⟨by omega, this.2⟩
theorem gq_fs_congr {p p' : Nat → Bool} : ∀ {m k : Nat}, (∀ j, k ≤ j → j < k + m → p j = p' j) → gq_fs p m k = gq_fs p' m k := by
  intro m
  induction m with
  | zero => intro k _; rfl
  | succ m ih =>
    intro k h
    rw [gq_fs, gq_fs, h k (Nat.le_refl _) (by omega), ih (fun j a b => h j (by omega) (by omega))]
def gq_lg (x n : Nat) : Int32 := if x < n then nI x else -1
/-- the other end of a leg -/
def gq_ot (A B : Nat → Nat) (k v : Nat) : Nat := if A k = v then B k else A k
def gq_pC (A B c : Nat → Nat) (a : Nat) (L : Nat → Nat → Nat) (m v k : Nat) : Bool := decide ((A k = v ∨ B k = v) ∧ gq_ot A B k v ≠ a ∧ c k + L (m - 1) (gq_ot A B k v) = L m v)
def gq_pR (A B c : Nat → Nat) (b : Nat) (D : Nat → Nat) (v k : Nat) : Bool := decide ((A k = v ∨ B k = v) ∧ (gq_ot A B k v = b ∨ 8 ≤ gq_ot A B k v) ∧ D (gq_ot A B k v) + (100 * c k + 1) = D v)
theorem gq_bif_dec {α : Type} {p : Prop} [Decidable p] (x y : α) : (bif decide p then x else y) = if p then x else y := by
  by_cases h : p
  · rw [decide_eq_true h, if_pos h]
    rfl
  · rw [decide_eq_false h, if_neg h]
    rfl
section GqLeg
variable {T : gh_St} {n : Nat} {A B M la : Nat → Nat} {cl u : Nat} (N : Nat) {q a b : Nat} {L : Nat → Nat → Nat} {D : Nat → Nat}
theorem gq_firstLeg26 (h : gq_RN T n A B M la cl u) (hq : q ≤ 3) (ha : a < 8) {m v : Nat} (hm : 1 ≤ m) (hm5 : m ≤ 5) (hv : v < 12) (hL : ∀ i w, i ≤ 5 → w < 12 → T.1 16 (i * 12 + w) = nI (L i w) ∧ L i w ≤ 1000000) : ∀ (fu k : Nat), k ≤ n → n - k < fu → sX4_firstLeg_26 N fu (nI q) (nI v) (nI a) (nI (L m v)) (nI ((m - 1) * 12)) (nI k) T = some (gq_lg (gq_fs (gq_pC A B (gq_cst M la cl q) a L m v) (n - k) k) n, T) := by
  intro fu
  induction fu with
  | zero => intro k _ h; omega
  | succ fu ih =>
    intro k hk hfu
    have hR := h
    obtain ⟨h1, h2, h3, h4, h5, h6, h7, h8, h9⟩ := h
    rw [sX4_firstLeg_26, h3, gh_n_ge (by omega) (by omega)]
    by_cases e : k = n
    · subst e
      rw [decide_eq_true (Nat.le_refl _), Nat.sub_self]
      unfold gq_fs gq_lg
      rw [if_neg (Nat.lt_irrefl _)]
      rfl
    · have hk20 : k < 20 := by omega
      obtain ⟨l1, l2, l3, l4, l5, l6, l7, l8, l9, l10, l11, l12, l13⟩ := h9 k hk20
      have hne := (l13 (by omega)).1
      have hc := gq_cst_le hR (q := q) hk20
      have hcost : sX4_costOf N (nI k) (nI q) T = some (nI (gq_cst M la cl q k), T) := gq_costOf N hk20 hq l5 l7 h5 l12
      have ra : ∀ c, gh_ra T c 20 (nI k) = some (T.1 c k) := fun c => gh_ra_n hk20 (by decide)
      have ih1 := ih (k + 1) (by omega) (by omega)
      obtain ⟨r, hr⟩ : ∃ r, n - k = r + 1 := ⟨n - k - 1, by omega⟩
      rw [hr, gq_fs]
      rw [show n - (k + 1) = r by omega] at ih1
      have hb1 : ∀ w, w < 12 → nI ((m - 1) * 12) + nI w = nI ((m - 1) * 12 + w) := fun w _ => nI_add _ _
      have e92 : ∀ (w : Nat) (t : Bool), w < 12 → sX4_firstLeg_92 N (sX4_firstLeg_26 N fu) (nI q) (nI v) (nI a) (nI (L m v)) (nI ((m - 1) * 12)) (nI k) (nI w) (gq_B t) T = (bif t && (decide (w ≠ a ∧ gq_cst M la cl q k + L (m - 1) w = L m v)) then some (nI k, T) else some (gq_lg (gq_fs (gq_pC A B (gq_cst M la cl q) a L m v) r (k + 1)) n, T)) := by
        intro w t hw
        have hLw := (hL (m - 1) w (by omega) hw)
        have hLv := (hL m v (by omega) hv)
        have rw16 : gh_ra T 16 72 (nI ((m - 1) * 12 + w)) = some (nI (L (m - 1) w)) := by rw [gh_ra_n (by omega) (by decide), hLw.1]
        cases t with
        | false => simp only [sX4_firstLeg_92, sX4_firstLeg_131, gq_bs, gq_B_eq, gq_B_ne, gq_B_gB, Bool.not_true, Bool.not_false, Bool.true_and, Bool.false_and, Bool.and_true, Bool.and_false, cond_true, cond_false, gh_isBin9, gh_isKind9, gh_isFarmer9, gh_within, gh_inR, gh_isBin10, gh_isKind10, Int32.toInt_toInt64, Int32.reduceToInt, Int64.reduceToInt, decide_true, decide_false, nI_1, ih1]
        | true =>
          simp only [sX4_firstLeg_92, sX4_firstLeg_131, gq_bs, gq_B_eq, gq_B_ne, gq_B_gB, Bool.not_true, Bool.not_false, Bool.true_and, Bool.false_and, Bool.and_true, Bool.and_false, cond_true, cond_false, gh_isBin9, gh_isKind9, gh_isFarmer9, gh_within, gh_inR, gh_isBin10, gh_isKind10, Int32.toInt_toInt64, Int32.reduceToInt, Int64.reduceToInt, decide_true, decide_false, nI_1, ih1, hcost, hb1 w hw, rw16, nI_add, gh_n_eq (show w < 2 ^ 31 by omega) (show a < 2 ^ 31 by omega), gh_n_ne (show gq_cst M la cl q k + L (m - 1) w < 2 ^ 31 by omega) (show L m v < 2 ^ 31 by omega)]
          by_cases a1 : w = a
          · simp [a1]
          · by_cases a2 : gq_cst M la cl q k + L (m - 1) w = L m v
            · simp [a1, a2]
            · simp [a1, a2]
      have n1 : gh_cmp .ne (nI (A k)) (nI v) = decide (A k ≠ v) := gh_n_ne (by omega) (by omega)
      have n2 : gh_cmp .eq (nI (A k)) (nI v) = decide (A k = v) := gh_n_eq (by omega) (by omega)
      have n3 : gh_cmp .ne (nI (B k)) (nI v) = decide (B k ≠ v) := gh_n_ne (by omega) (by omega)
      rw [decide_eq_false (by omega), cond_false]
      have hlgk : gq_lg k n = nI k := if_pos (by omega)
      simp only [ra, gq_bs, l1, l3, sX4_firstLeg_63, sX4_firstLeg_87, n1, n2, n3]
      have f0 : (0 : Int32) = gq_B false := rfl
      have f1 : (1 : Int32) = gq_B true := rfl
      rw [f0, f1, e92 (A k) true l9, e92 (A k) false l9, e92 (B k) true l10, e92 (B k) false l10]
      unfold gq_pC gq_ot
      by_cases a1 : A k = v
      · simp only [a1, ne_eq, not_true_eq_false, decide_false, cond_false, decide_true, cond_true, true_or, true_and, if_true, Bool.true_and]
        cases decide (¬ B k = a ∧ gq_cst M la cl q k + L (m - 1) (B k) = L m v) with
        | true => simp only [cond_true, hlgk]
        | false => simp only [cond_false]
      · by_cases a2 : B k = v
        · simp only [a1, a2, ne_eq, not_true_eq_false, not_false_eq_true, decide_false, cond_false, decide_true, cond_true, or_true, true_and, if_false, Bool.true_and]
          cases decide (¬ A k = a ∧ gq_cst M la cl q k + L (m - 1) (A k) = L m v) with
          | true => simp only [cond_true, hlgk]
          | false => simp only [cond_false]
        · simp only [a1, a2, ne_eq, not_false_eq_true, decide_false, cond_false, decide_true, cond_true, or_self, false_and, if_false, Bool.false_and]
end GqLeg
