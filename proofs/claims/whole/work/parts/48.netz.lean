/-! ===== wayLeg, going by a way ===== -/
section GqGo
variable {S T : gh_St} {n : Nat} {A B M la : Nat → Nat} {cl u : Nat} (N : Nat) {q a b : Nat} {L : Nat → Nat → Nat} {D : Nat → Nat} {best st : Nat}
/-- what the reference's loops along the way need -/
def gq_WY (T : gh_St) (n : Nat) (A B M la : Nat → Nat) (cl u q a b : Nat) (D : Nat → Nat) (st : Nat) : Prop :=
  gq_RR T n A B M la cl u ∧ (∀ w, w < 12 → T.1 83 w = nI (D w) ∧ D w ≤ 100000000) ∧ 1 ≤ st ∧ st ≤ 5 ∧ q ≤ 3 ∧ b < 8 ∧
  (∀ i, i ≤ st → gq_no A B (gq_cst M la cl q) n a b D i < 12) ∧ (∀ i, i < st → gq_no A B (gq_cst M la cl q) n a b D i ≠ b ∧ gq_wl A B (gq_cst M la cl q) n a b D i < n) ∧ gq_no A B (gq_cst M la cl q) n a b D st = b
theorem gq_WY_of (h : gq_RR T n A B M la cl u) (hq : q ≤ 3) (ha : a < 8) (hb : b < 8) (hab : a ≠ b) (h83 : ∀ w, w < 12 → T.1 83 w = nI (D w)) (hL : gq_isL n A B (gq_cst M la cl q) a b L) (hD : gq_isD n A B (gq_cst M la cl q) b D) (hB : gq_isB a L best st) (hst : st ≠ 0) : gq_WY T n A B M la cl u q a b D st := by
  have hp := gq_path ha hb hab (gq_RR_AB h) (gq_RR_ne h) hL hD hB hst
  refine ⟨h, fun w hw => ⟨h83 w hw, hD.2.1 w hw⟩, by omega, hB.1, hq, hb, fun i hi => (hp i hi).1, fun i hi => ?_, (hp st (Nat.le_refl _)).2.2.2.2 rfl⟩
  obtain ⟨-, p2, p3, -⟩ := (hp i (by omega)).2.2.2.1 hi
  exact ⟨p2, p3⟩
theorem gq_no_succ (c : Nat → Nat) (i : Nat) : gq_no A B c n a b D (i + 1) = gq_ot A B (gq_wl A B c n a b D i) (gq_no A B c n a b D i) := rfl
theorem gq_wayLeg23 (h : gq_WY T n A B M la cl u q a b D st) (hN : 100 ≤ N) {t : Nat} (ht : t < 2 ^ 31) : ∀ (fu i : Nat), i ≤ st → i ≤ t → st - i < fu → sX10_wayLeg_23 N fu (nI q) (nI b) (nI t) (nI (gq_no A B (gq_cst M la cl q) n a b D i)) (nI i) T = some (if t < st then nI (gq_wl A B (gq_cst M la cl q) n a b D t) else -1, T) := by
  obtain ⟨hR, h83, hs1, hs5, hq, hb, w1, w2, w3⟩ := h
  have hn := hR.1
  intro fu
  induction fu with
  | zero => intro i _ _ h; omega
  | succ fu ih =>
    intro i hi hit hfu
    have hv := w1 i hi
    rw [sX10_wayLeg_23, gh_n_eq (by omega) (by omega)]
    by_cases e : i = st
    · subst e
      rw [decide_eq_true w3, cond_true, if_neg (by omega)]
    · obtain ⟨x1, x2⟩ := w2 i (by omega)
      have hnl := gq_nextLeg N hR hN hq hb hv h83
      have e2 : gq_lg (gq_fs (gq_pR A B (gq_cst M la cl q) b D (gq_no A B (gq_cst M la cl q) n a b D i)) n 0) n = nI (gq_wl A B (gq_cst M la cl q) n a b D i) := if_pos x2
      rw [e2] at hnl
      rw [decide_eq_false x1, cond_false, hnl, gq_bs, gh_n_ne (by omega) (by omega)]
      obtain ⟨l1, l2, l3, l4, l5, l6, l7, l8, l9, l10, l11, l12, l13⟩ := hR.2.2.2.2.2.2.2.2 (gq_wl A B (gq_cst M la cl q) n a b D i) (by omega)
      by_cases et : i = t
      · rw [decide_eq_false (by omega), cond_false, if_pos (by omega), et]
      · rw [decide_eq_true et, cond_true]
        have ih1 := ih (i + 1) (by omega) (by omega) (by omega)
        rw [gq_no_succ] at ih1
        unfold gq_ot at ih1
        have ra : ∀ c, gh_ra T c 20 (nI (gq_wl A B (gq_cst M la cl q) n a b D i)) = some (T.1 c (gq_wl A B (gq_cst M la cl q) n a b D i)) := fun c => gh_ra_n (by omega) (by decide)
        simp only [ra, gq_bs, l2, l4, gh_n_ne (show A (gq_wl A B (gq_cst M la cl q) n a b D i) < 2 ^ 31 by omega) (show gq_no A B (gq_cst M la cl q) n a b D i < 2 ^ 31 by omega), sX10_wayLeg_78, nI_1]
        by_cases ea : A (gq_wl A B (gq_cst M la cl q) n a b D i) = gq_no A B (gq_cst M la cl q) n a b D i
        · rw [decide_eq_false (by omega), cond_false]
          rw [if_pos ea] at ih1
          exact ih1
        · rw [decide_eq_true ea, cond_true]
          rw [if_neg ea] at ih1
          exact ih1
def gq_sl (la wl : Nat → Nat) (x : Nat) : Nat → Nat → Nat
  | 0 => la
  | i + 1 => gh_nu (gq_sl la wl x i) (wl i) x
theorem gq_sl_le {la wl : Nat → Nat} {x k : Nat} (hx : x ≤ 4) (h : la k ≤ 4) : ∀ i, gq_sl la wl x i k ≤ 4 := by
  intro i
  induction i with
  | zero => exact h
  | succ i ih =>
    rw [gq_sl]
    unfold gh_nu
    split
    · exact hx
    · exact ih
def gq_C15 (c k : Nat) : Bool := Nat.beq c 15 || (Nat.beq c 11 && Nat.beq k 9)
def gq_C68 (c k : Nat) : Bool := Nat.beq c 84 || Nat.beq c 68 || (Nat.beq c 56 && Nat.beq k 15)
theorem gq_goBy {wl : Nat → Nat} (hN : 100 ≤ N) (hst : st ≤ 5) (hb : best ≤ 1000000) (h6 : S.1 11 6 = nI st) (h17 : ∀ i, i < st → S.1 17 i = nI (wl i) ∧ wl i < 20) (h15 : ∀ k, k < 20 → S.1 15 k = gq_kd (la k)) : gh_ok (sX4_goBy N (nI q) (nI best) S) (fun T => gh_fr gq_C15 S T ∧ (∀ k, k < 20 → T.1 15 k = gq_kd (gq_sl la wl (q + 1) st k)) ∧ T.2.1 11 9 = S.2.1 11 9 + lN best) := by
  have key : ∀ (fu i : Nat) (T : gh_St), i ≤ st → st - i < fu → gh_fr (fun c _ => Nat.beq c 15) S T → (∀ k, k < 20 → T.1 15 k = gq_kd (gq_sl la wl (q + 1) i k)) → gh_ok (sX4_goBy_2 N fu (nI q) (nI best) (nI i) T) (fun T => gh_fr gq_C15 S T ∧ (∀ k, k < 20 → T.1 15 k = gq_kd (gq_sl la wl (q + 1) st k)) ∧ T.2.1 11 9 = S.2.1 11 9 + lN best) := by
    intro fu
    induction fu with
    | zero => intro i T _ h; omega
    | succ fu ih =>
      intro i T hi hfu hfr hT
      rw [sX4_goBy_2, hfr.1 11 6 rfl, h6, gh_n_ge (by omega) (by omega)]
      by_cases e : i = st
      · subst e
        rw [decide_eq_true (Nat.le_refl _), cond_true, nI_l (by omega), hfr.2.1 11 9 rfl]
        refine gh_ok_some ⟨gh_fr_fL (gh_fr_mono hfr (fun c k hc => by unfold gq_C15; rw [hc]; rfl)) rfl, hT, ?_⟩
        rw [gh_fL_1, if_pos ⟨rfl, rfl⟩]
      · obtain ⟨w1, w2⟩ := h17 i (by omega)
        rw [decide_eq_false (by omega), cond_false, gh_ra_n (by omega) (by decide), gq_bs, hfr.1 17 i rfl, w1, gh_wa_n w2 (by decide), gq_bs, nI_1]
        refine ih (i + 1) _ (by omega) (by omega) (gh_fr_fI hfr rfl) (fun k hk => ?_)
        rw [gh_fI_1, gq_sl]
        unfold gh_nu
        by_cases ek : k = wl i
        · rw [if_pos ⟨rfl, ek⟩, if_pos ek]
          rfl
        · rw [if_neg (by omega), if_neg ek]
          exact hT k hk
  exact key N 0 S (by omega) (by omega) (gh_fr_refl _ _) h15
theorem gq_goesBy (h : gq_WY T n A B M la cl u q a b D st) (hN : 100 ≤ N) (ha : a < 8) (hb : best ≤ 1000000) (hD : D a = 100 * best + st) (hu : u ≤ 1000000000) : gh_ok (sX10_goesBy N (nI q) (nI a) (nI b) T) (fun r => r.1 = nI best ∧ gh_fr gq_C68 T r.2 ∧ (∀ k, k < 20 → r.2.1 68 k = gq_kd (gq_sl la (gq_wl A B (gq_cst M la cl q) n a b D) (q + 1) st k)) ∧ r.2.1 56 15 = nI (u + best)) := by
  obtain ⟨hR, h83, hs1, hs5, hq, hb8, w1, w2, w3⟩ := h
  have hn := hR.1
  have key2 : ∀ (T1 : gh_St), gh_fr (fun c _ => Nat.beq c 84) T T1 → (∀ i, i < st → T1.1 84 i = nI (gq_wl A B (gq_cst M la cl q) n a b D i)) → ∀ (fu i : Nat) (T2 : gh_St), i ≤ st → st - i < fu → gh_fr (fun c _ => Nat.beq c 68) T1 T2 → (∀ k, k < 20 → T2.1 68 k = gq_kd (gq_sl la (gq_wl A B (gq_cst M la cl q) n a b D) (q + 1) i k)) → gh_ok (sX10_goesBy_82 N fu (nI q) (nI best) (nI st) (nI i) T2) (fun r => r.1 = nI best ∧ gh_fr gq_C68 T r.2 ∧ (∀ k, k < 20 → r.2.1 68 k = gq_kd (gq_sl la (gq_wl A B (gq_cst M la cl q) n a b D) (q + 1) st k)) ∧ r.2.1 56 15 = nI (u + best)) := by
    intro T1 f1 g1 fu
    induction fu with
    | zero => intro i T2 _ h; omega
    | succ fu ih =>
      intro i T2 hi hfu hfr hT
      rw [sX10_goesBy_82, gh_n_ge (by omega) (by omega)]
      by_cases e : i = st
      · subst e
        rw [decide_eq_true (Nat.le_refl _), cond_true]
        refine gh_ok_some ⟨rfl, ?_, fun k hk => ?_, ?_⟩
        · refine gh_fr_fI (gh_fr_trans (gh_fr_mono f1 (fun c k hc => ?_)) (gh_fr_mono hfr (fun c k hc => ?_))) rfl
          · unfold gq_C68; rw [hc]; rfl
          · unfold gq_C68; rw [hc]; simp
        · rw [gh_fI_1, if_neg (by omega)]
          exact hT k hk
        · rw [gh_fI_1, if_pos ⟨rfl, rfl⟩, hfr.1 56 15 rfl, f1.1 56 15 rfl, hR.2.2.2.2.2.2.2.1, nI_add]
      · obtain ⟨x1, x2⟩ := w2 i (by omega)
        rw [decide_eq_false (by omega), cond_false, gh_ra_n (by omega) (by decide), gq_bs, hfr.1 84 i rfl, g1 i (by omega), gh_wa_n (by omega) (by decide), gq_bs, nI_1]
        refine ih (i + 1) _ (by omega) (by omega) (gh_fr_fI hfr rfl) (fun k hk => ?_)
        rw [gh_fI_1, gq_sl]
        unfold gh_nu
        by_cases ek : k = gq_wl A B (gq_cst M la cl q) n a b D i
        · rw [if_pos ⟨rfl, ek⟩, if_pos ek]
          rfl
        · rw [if_neg (by omega), if_neg ek]
          exact hT k hk
  have key1 : ∀ (fu i : Nat) (T1 : gh_St), i ≤ st → st - i < fu → gh_fr (fun c _ => Nat.beq c 84) T T1 → (∀ j, j < i → T1.1 84 j = nI (gq_wl A B (gq_cst M la cl q) n a b D j)) → gh_ok (sX10_goesBy_17 N fu (nI q) (nI b) (nI best) (nI i) (nI (gq_no A B (gq_cst M la cl q) n a b D i)) T1) (fun r => r.1 = nI best ∧ gh_fr gq_C68 T r.2 ∧ (∀ k, k < 20 → r.2.1 68 k = gq_kd (gq_sl la (gq_wl A B (gq_cst M la cl q) n a b D) (q + 1) st k)) ∧ r.2.1 56 15 = nI (u + best)) := by
    intro fu
    induction fu with
    | zero => intro i T1 _ h; omega
    | succ fu ih =>
      intro i T1 hi hfu hfr hT
      have hv := w1 i hi
      have hR1 : gq_RR T1 n A B M la cl u := gq_RR_fr hR hfr (fun c k hc => by
        cases e : Nat.beq c 84 with
        | false => rfl
        | true =>
          unfold gq_CR at hc
          simp only [Bool.or_eq_true, Bool.and_eq_true, Nat.beq_eq, Nat.ble_eq] at hc e
          omega)
      rw [sX10_goesBy_17, gh_n_eq (by omega) (by omega)]
      by_cases e : i = st
      · subst e
        rw [decide_eq_true w3, cond_true]
        exact key2 T1 hfr hT N 0 T1 (by omega) (by omega) (gh_fr_refl _ _) (fun k hk => (hR1.2.2.2.2.2.2.2.2 k hk).2.2.2.2.2.2.2.1)
      · obtain ⟨x1, x2⟩ := w2 i (by omega)
        have hnl := gq_nextLeg N hR1 hN hq hb8 hv (fun w hw => ⟨(hfr.1 83 w rfl).trans (h83 w hw).1, (h83 w hw).2⟩)
        have e2 : gq_lg (gq_fs (gq_pR A B (gq_cst M la cl q) b D (gq_no A B (gq_cst M la cl q) n a b D i)) n 0) n = nI (gq_wl A B (gq_cst M la cl q) n a b D i) := if_pos x2
        rw [e2] at hnl
        obtain ⟨l1, l2, l3, l4, l5, l6, l7, l8, l9, l10, l11, l12, l13⟩ := hR1.2.2.2.2.2.2.2.2 (gq_wl A B (gq_cst M la cl q) n a b D i) (by omega)
        have fr2 : gh_fr (fun c _ => Nat.beq c 84) T (gh_fI T1 84 i (nI (gq_wl A B (gq_cst M la cl q) n a b D i))) := gh_fr_fI hfr rfl
        have ih1 := ih (i + 1) _ (by omega) (by omega) fr2 (fun j hj => by
          rw [gh_fI_1]
          by_cases ej : j = i
          · subst ej
            rw [if_pos ⟨rfl, rfl⟩]
          · rw [if_neg (by omega)]
            exact hT j (by omega))
        rw [gq_no_succ] at ih1
        unfold gq_ot at ih1
        have ra : ∀ c, gh_ra (gh_fI T1 84 i (nI (gq_wl A B (gq_cst M la cl q) n a b D i))) c 20 (nI (gq_wl A B (gq_cst M la cl q) n a b D i)) = some ((gh_fI T1 84 i (nI (gq_wl A B (gq_cst M la cl q) n a b D i))).1 c (gq_wl A B (gq_cst M la cl q) n a b D i)) := fun c => gh_ra_n (by omega) (by decide)
        have v65 : (gh_fI T1 84 i (nI (gq_wl A B (gq_cst M la cl q) n a b D i))).1 65 (gq_wl A B (gq_cst M la cl q) n a b D i) = nI (A (gq_wl A B (gq_cst M la cl q) n a b D i)) := by rw [gh_fI_1, if_neg (by omega), l2]
        have v66 : (gh_fI T1 84 i (nI (gq_wl A B (gq_cst M la cl q) n a b D i))).1 66 (gq_wl A B (gq_cst M la cl q) n a b D i) = nI (B (gq_wl A B (gq_cst M la cl q) n a b D i)) := by rw [gh_fI_1, if_neg (by omega), l4]
        rw [decide_eq_false x1, cond_false, hnl, gq_bs]
        show gh_ok ((gh_wa T1 84 20 (nI i) (nI (gq_wl A B (gq_cst M la cl q) n a b D i))).bind _) _
        rw [gh_wa_n (by omega) (by decide), gq_bs]
        simp only [ra, gq_bs, v65, v66, gh_n_ne (show A (gq_wl A B (gq_cst M la cl q) n a b D i) < 2 ^ 31 by omega) (show gq_no A B (gq_cst M la cl q) n a b D i < 2 ^ 31 by omega), sX10_goesBy_74, nI_1]
        by_cases ea : A (gq_wl A B (gq_cst M la cl q) n a b D i) = gq_no A B (gq_cst M la cl q) n a b D i
        · rw [decide_eq_false (by omega), cond_false]
          rw [if_pos ea] at ih1
          exact ih1
        · rw [decide_eq_true ea, cond_true]
          rw [if_neg ea] at ih1
          exact ih1
  unfold sX10_goesBy
  have hDa := (h83 a (by omega)).2
  rw [gh_ra_n (by omega) (by decide), gq_bs, (h83 a (by omega)).1, show (100 : Int32) = nI 100 from rfl, gq_di (by omega) (by omega) (by omega), gq_bs, show D a / 100 = best by omega]
  exact key1 N 0 T (by omega) (by omega) (gh_fr_refl _ _) (fun j hj => by omega)
theorem gq_L_small (h : gq_RN S n A B M la cl u) (hL : gq_isL n A B (gq_cst M la cl q) a b L) : ∀ m v, m ≤ 5 → v < 12 → L m v < 1000000 → L m v ≤ 159 * m := by
  intro m
  induction m with
  | zero =>
    intro v _ hv hl
    rw [hL.2.1 v hv] at hl ⊢
    split at hl
    · rename_i e
      rw [if_pos e]
      omega
    · omega
  | succ m ih =>
    intro v hm hv hl
    rcases hL.2.2.2 m v (by omega) hv with e | ⟨k, w, e1, e2, e3, e4, e5⟩
    · omega
    · have hw := gq_jn_lt (gq_RN_AB h) e1 e2
      have := ih w (by omega) hw (by omega)
      have hn := h.1
      have := gq_cst_le h (q := q) (show k < 20 by omega)
      omega
end GqGo
theorem gq_wayLeg {S : gh_St} {j : Nat} (N : Nat) (hN : 2000000000 ≤ N) (x y z t : Int32) (hR : gq_R2 j S) : gq_P (sX9_wayLeg N x y z t) (sX10_wayLeg N x y z t) gq_C2 (gq_R2 j) S := by
  obtain ⟨n, A, B, M, la, cl, u, h, hu⟩ := hR
  by_cases hbad : gh_rg x.toInt 0 3 = false ∨ gh_rg y.toInt 0 7 = false ∨ gh_rg z.toInt 0 7 = false ∨ y = z
  · have hf : gh_fr gq_CF S (gh_fI S 11 6 0) := gh_fr_fI (gh_fr_refl _ _) rfl
    refine ⟨-1, _, _, by unfold sX9_wayLeg; rw [gq_find_no N hbad]; rfl, by unfold sX10_wayLeg; rw [gq_isWay_no N hbad]; rfl, ⟨n, A, B, M, la, cl, u, gq_RN_fr h hf gq_CN_CF, hu⟩, gh_fr_mono hf gq_C2_CF⟩
  · obtain ⟨q, a, b, rfl, rfl, rfl, hq, ha, hb, hab⟩ := gq_way_gd hbad
    obtain ⟨best, st, L, S1, hL, hB, e1, e2, e3, e4⟩ := gq_find N h hN hq ha hb hab
    have h1 := gq_RN_fr h e2 gq_CN_CF
    obtain ⟨D, d1, d2⟩ := gq_isWay N (gq_RR_of h1) hN hq ha hb hab
    have hbd := gq_D_best ha hb hab (gq_RN_AB h) hL d2 hB
    have hfr : gh_fr gq_C2 S (gq_vr S1 D) := gh_fr_trans (gh_fr_mono e2 gq_C2_CF) (gq_vr_fr D (fun _ => rfl))
    have hR2 : gq_RN (gq_vr S1 D) n A B M la cl u := gq_RN_fr (C := fun c _ => Nat.beq c 83) h1 (gq_vr_fr D (fun _ => rfl)) (fun c k hc => by
      cases e : Nat.beq c 83 with
      | false => rfl
      | true =>
        unfold gq_CN at hc
        simp only [Bool.or_eq_true, Bool.and_eq_true, Nat.beq_eq, Nat.ble_eq] at hc e
        omega)
    have hst5 := hB.1
    by_cases h0 : st = 0
    · refine ⟨-1, S1, gq_vr S1 D, ?_, ?_, ⟨n, A, B, M, la, cl, u, hR2, hu⟩, hfr⟩
      · unfold sX9_wayLeg
        rw [e1, if_pos h0]
        rfl
      · unfold sX10_wayLeg
        rw [d1, gq_bs, gq_B_eq, decide_eq_false (hbd.1 h0)]
        rfl
    · obtain ⟨f1, f2⟩ := hbd.2 h0
      have hWY := gq_WY_of (gq_RR_of hR2) hq ha hb hab (fun w hw => gq_vr_r S1 D hw) hL d2 hB h0
      have hbest : best < 1000000 := (hB.2.2.2 h0).2.1
      have m1 : gh_cmp .eq (nI best) (-1) = false := by
        rw [gh_c_eq, nI_toInt (by omega)]
        exact decide_eq_false (by show ¬ (best : Int) = -1; omega)
      have c9 : sX9_wayLeg N (nI q) (nI a) (nI b) t S = (bif gh_rg t.toInt 0 (st - 1 : Nat) then ((gh_ra S1 17 5 t).bind fun x3 => some (x3, S1)) else some (-1, S1)) := by
        unfold sX9_wayLeg
        rw [e1, if_neg h0, gq_bs]
        show (bif gh_cmp .eq (nI best) (-1) then _ else _) = _
        rw [m1, cond_false, gh_within, gq_bs]
        show (bif gh_cmp .ne (gq_B (gh_rg t.toInt 0 (S1.1 11 6 - 1 : Int32).toInt)) 0 then _ else _) = _
        rw [gq_B_ne, e3, show (1 : Int32) = nI 1 from rfl, pk_sub (by omega), nI_toInt (by omega)]
      have c10 : sX10_wayLeg N (nI q) (nI a) (nI b) t S1 = (bif decide (0 ≤ t.toInt) then sX10_wayLeg_23 N N (nI q) (nI b) t (nI a) 0 (gq_vr S1 D) else some (-1, gq_vr S1 D)) := by
        unfold sX10_wayLeg
        rw [d1, gq_bs, gq_B_eq, decide_eq_true f2, Bool.not_true, cond_false, gh_c_ge]
        rfl
      by_cases ht : 0 ≤ t.toInt
      · have htl := t.toInt_lt
        have hte : t = nI t.toInt.toNat := gh_nI_eq t ht
        generalize htn : t.toInt.toNat = tn at hte
        have hti : t.toInt = tn := by omega
        subst hte
        rw [decide_eq_true ht, cond_true] at c10
        have hw := gq_wayLeg23 N hWY (by omega) (t := tn) (by omega) N 0 (by omega) (by omega) (by omega)
        have c10' := c10.trans hw
        by_cases hlt : tn < st
        · rw [if_pos hlt] at c10'
          refine ⟨_, S1, gq_vr S1 D, ?_, c10', ⟨n, A, B, M, la, cl, u, hR2, hu⟩, hfr⟩
          rw [c9, gh_rg_iff.mpr (by omega), cond_true, gh_ra_n (by omega) (by decide), gq_bs, e4 h0 D d2 tn hlt]
        · rw [if_neg hlt] at c10'
          refine ⟨_, S1, gq_vr S1 D, ?_, c10', ⟨n, A, B, M, la, cl, u, hR2, hu⟩, hfr⟩
          rw [c9, gh_rg_not.mpr (by omega), cond_false]
      · rw [decide_eq_false ht, cond_false] at c10
        refine ⟨-1, S1, gq_vr S1 D, ?_, c10, ⟨n, A, B, M, la, cl, u, hR2, hu⟩, hfr⟩
        rw [c9, gh_rg_not.mpr (by omega), cond_false]
