/-! ===== move ===== -/
theorem gq_sl_congr {la wl wl' : Nat → Nat} {x : Nat} : ∀ {st : Nat}, (∀ i, i < st → wl i = wl' i) → ∀ k, gq_sl la wl x st k = gq_sl la wl' x st k := by
  intro st
  induction st with
  | zero => intro _ k; rfl
  | succ st ih =>
    intro h k
    rw [gq_sl, gq_sl, h st (by omega)]
    unfold gh_nu
    rw [ih (fun i hi => h i (by omega)) k]
theorem gq_move {S : gh_St} {j : Nat} (N : Nat) (hN : 2000000000 ≤ N) (hj : j < 512) (xa xb xm : Int32) (hR : gq_R12 j S) : gq_P (sX9_move N xa xb xm) (sX10_move N xa xb xm) gq_C12 (gq_R12 (j + 1)) S := by
  obtain ⟨⟨n, kd, kg, rm, g, fa, ki, mo, gr, hB, hL, hH⟩, hR2⟩ := hR
  have hR1 : gq_R1 S := ⟨n, kd, kg, rm, g, fa, ki, mo, gr, hB, hL, hH⟩
  have hS : gq_R12 (j + 1) S := ⟨hR1, gq_R2_mono hR2 (by omega)⟩
  cases h1 : gh_rg xa.toInt 0 7 with
  | false => exact gq_P0 (-1) (by simp only [sX9_move, gq_bs, gq_B_eq, gq_B_ne, gq_B_gB, Bool.not_true, Bool.not_false, Bool.true_and, Bool.false_and, Bool.and_true, Bool.and_false, cond_true, cond_false, gh_isBin9, gh_isKind9, gh_isFarmer9, gh_within, gh_inR, gh_isBin10, gh_isKind10, Int32.toInt_toInt64, Int32.reduceToInt, Int64.reduceToInt, decide_true, decide_false, gq_canTake_no N h1]; rfl) (by simp only [sX10_move, gq_bs, gq_B_eq, gq_B_ne, gq_B_gB, Bool.not_true, Bool.not_false, Bool.true_and, Bool.false_and, Bool.and_true, Bool.and_false, cond_true, cond_false, gh_isBin9, gh_isKind9, gh_isFarmer9, gh_within, gh_inR, gh_isBin10, gh_isKind10, Int32.toInt_toInt64, Int32.reduceToInt, Int64.reduceToInt, decide_true, decide_false, h1]) hS
  | true =>
  obtain ⟨a, -, rfl, -, ha, -⟩ := gh_rgN h1 (by decide)
  have ha8 : a < 8 := by omega
  obtain ⟨a1, a2, a3, a4, a5, a6, a7, a8, qa1, qa2, qa3⟩ := hB.1 a ha8
  have ct := gq_canTake (m := 0) N ha8 a3 (by omega) xm
  have ek : (nI (kg a)).toInt = (kg a : Int) := nI_toInt (by omega)
  have raS : ∀ (T : gh_St) c, gh_ra T c 8 (nI a) = some (T.1 c a) := fun T c => gh_ra_n ha8 (by decide)
  cases h2 : gh_rg xm.toInt 1 (kg a) with
  | false => exact gq_P0 (-1) (by simp only [sX9_move, gq_bs, gq_B_eq, gq_B_ne, gq_B_gB, Bool.not_true, Bool.not_false, Bool.true_and, Bool.false_and, Bool.and_true, Bool.and_false, cond_true, cond_false, gh_isBin9, gh_isKind9, gh_isFarmer9, gh_within, gh_inR, gh_isBin10, gh_isKind10, Int32.toInt_toInt64, Int32.reduceToInt, Int64.reduceToInt, decide_true, decide_false, ct, h2]) (by simp only [sX10_move, gq_bs, gq_B_eq, gq_B_ne, gq_B_gB, Bool.not_true, Bool.not_false, Bool.true_and, Bool.false_and, Bool.and_true, Bool.and_false, cond_true, cond_false, gh_isBin9, gh_isKind9, gh_isFarmer9, gh_within, gh_inR, gh_isBin10, gh_isKind10, Int32.toInt_toInt64, Int32.reduceToInt, Int64.reduceToInt, decide_true, decide_false, h1, raS, a4, ek, h2]) hS
  | true =>
  obtain ⟨m, -, rfl, hm1, hm2, -⟩ := gh_rgN h2 (by decide)
  have hga := gq_gle hB.2 hL.1 ha8
  cases h3 : gh_rg xb.toInt 0 7 with
  | false => exact gq_P0 (-1) (by simp only [sX9_move, gq_bs, gq_B_eq, gq_B_ne, gq_B_gB, Bool.not_true, Bool.not_false, Bool.true_and, Bool.false_and, Bool.and_true, Bool.and_false, cond_true, cond_false, gh_isBin9, gh_isKind9, gh_isFarmer9, gh_within, gh_inR, gh_isBin10, gh_isKind10, Int32.toInt_toInt64, Int32.reduceToInt, Int64.reduceToInt, decide_true, decide_false, ct, h2, raS, a1, gq_canPut_no N h3]; rfl) (by simp only [sX10_move, gq_bs, gq_B_eq, gq_B_ne, gq_B_gB, Bool.not_true, Bool.not_false, Bool.true_and, Bool.false_and, Bool.and_true, Bool.and_false, cond_true, cond_false, gh_isBin9, gh_isKind9, gh_isFarmer9, gh_within, gh_inR, gh_isBin10, gh_isKind10, Int32.toInt_toInt64, Int32.reduceToInt, Int64.reduceToInt, decide_true, decide_false, h1, raS, a4, a2, ek, h2, gq_isWay_no N (Or.inr (Or.inr (Or.inl h3)))]; rfl) hS
  | true =>
  obtain ⟨b, -, rfl, -, hb, -⟩ := gh_rgN h3 (by decide)
  have hb8 : b < 8 := by omega
  obtain ⟨b1, b2, b3, b4, b5, b6, b7, b8, qb1, qb2, qb3⟩ := hB.1 b hb8
  have cp := gq_canPut N hb8 (m := m) (q := kd a) (by omega) (by omega) b1 (by omega) b3 b5 qb2 qb3
  have cpR : ∀ T : gh_St, T.1 58 b = nI (kd b) → T.1 59 b = nI (kg b) → T.1 57 b = nI (rm b) → _ := fun T x y z => gq_canPutR (S := T) N hb8 (m := m) (q := kd a) (by omega) (by omega) x (by omega) y z qb2 qb3
  by_cases hab : a = b
  · have hbad : gh_rg (nI (kd a)).toInt 0 3 = false ∨ gh_rg (nI a).toInt 0 7 = false ∨ gh_rg (nI b).toInt 0 7 = false ∨ (nI a : Int32) = nI b := by rw [hab]; simp
    have r10 : ∀ T : gh_St, T.1 58 a = nI (kd a) → T.1 59 a = nI (kg a) → sX10_move N (nI a) (nI b) (nI m) T = some (-1, T) := by
      intro T t1 t2
      simp only [sX10_move, gq_bs, gq_B_eq, gq_B_ne, gq_B_gB, Bool.not_true, Bool.not_false, Bool.true_and, Bool.false_and, Bool.and_true, Bool.and_false, cond_true, cond_false, gh_isBin9, gh_isKind9, gh_isFarmer9, gh_within, gh_inR, gh_isBin10, gh_isKind10, Int32.toInt_toInt64, Int32.reduceToInt, Int64.reduceToInt, decide_true, decide_false, h1, raS, t1, t2, ek, h2, gq_isWay_no N hbad]
      rfl
    by_cases hc : (kg b = 0 ∨ kd b = kd a) ∧ kg b + m ≤ rm b
    · have hf : gh_fr gq_CF S (gh_fI S 11 6 0) := gh_fr_fI (gh_fr_refl _ _) rfl
      refine ⟨-1, gh_fI S 11 6 0, gh_fI S 11 6 0, ?_, r10 _ (by simp [gh_fI_1, a2]) (by simp [gh_fI_1, a4]), gq_R12_C2 hR1 (gq_R2_CF hR2 hf) (gh_fr_mono hf gq_C2_CF), gh_fr_mono hf gq_C12_F⟩
      rw [decide_eq_true hc] at cp
      simp only [sX9_move, sX9_move_91, gq_bs, gq_B_eq, gq_B_ne, gq_B_gB, Bool.not_true, Bool.not_false, Bool.true_and, Bool.false_and, Bool.and_true, Bool.and_false, cond_true, cond_false, gh_isBin9, gh_isKind9, gh_isFarmer9, gh_within, gh_inR, gh_isBin10, gh_isKind10, Int32.toInt_toInt64, Int32.reduceToInt, Int64.reduceToInt, decide_true, decide_false, ct, h2, raS, a1, cp, gq_find_no N hbad]
      rfl
    · rw [decide_eq_false hc] at cp
      exact gq_P0 (-1) (by simp only [sX9_move, gq_bs, gq_B_eq, gq_B_ne, gq_B_gB, Bool.not_true, Bool.not_false, Bool.true_and, Bool.false_and, Bool.and_true, Bool.and_false, cond_true, cond_false, gh_isBin9, gh_isKind9, gh_isFarmer9, gh_within, gh_inR, gh_isBin10, gh_isKind10, Int32.toInt_toInt64, Int32.reduceToInt, Int64.reduceToInt, decide_true, decide_false, ct, h2, raS, a1, cp]) (r10 S a2 a4) hS
  obtain ⟨ln, A, B, M, la, cl, u, hRN, hu⟩ := hR2
  have hR2 : gq_R2 j S := ⟨ln, A, B, M, la, cl, u, hRN, hu⟩
  obtain ⟨best, st, S1, hbest, hst5, e1, e2, e6, e7⟩ := gq_fw N hRN hN (q := kd a) (by omega) ha8 hb8 hab
  by_cases hc : (kg b = 0 ∨ kd b = kd a) ∧ kg b + m ≤ rm b
  case neg =>
    rw [decide_eq_false hc] at cp
    obtain ⟨D, d1, -⟩ := e7 S (gq_RR_of hRN)
    have hfr : gh_fr gq_C2 S (gq_vr S D) := gq_vr_fr D (fun _ => rfl)
    have hcr := cpR (gq_vr S D) b2 b4 b6
    rw [decide_eq_false hc] at hcr
    have v58 : (gq_vr S D).1 58 a = nI (kd a) := a2
    refine ⟨-1, S, gq_vr S D, by simp only [sX9_move, gq_bs, gq_B_eq, gq_B_ne, gq_B_gB, Bool.not_true, Bool.not_false, Bool.true_and, Bool.false_and, Bool.and_true, Bool.and_false, cond_true, cond_false, gh_isBin9, gh_isKind9, gh_isFarmer9, gh_within, gh_inR, gh_isBin10, gh_isKind10, Int32.toInt_toInt64, Int32.reduceToInt, Int64.reduceToInt, decide_true, decide_false, ct, h2, raS, a1, cp], ?_, gq_R12_C2 hR1 (gq_R2_vr D hR2) hfr, gq_C12_R1 hfr⟩
    simp only [sX10_move, gq_bs, gq_B_eq, gq_B_ne, gq_B_gB, Bool.not_true, Bool.not_false, Bool.true_and, Bool.false_and, Bool.and_true, Bool.and_false, cond_true, cond_false, gh_isBin9, gh_isKind9, gh_isFarmer9, gh_within, gh_inR, gh_isBin10, gh_isKind10, Int32.toInt_toInt64, Int32.reduceToInt, Int64.reduceToInt, decide_true, decide_false, h1, raS, a2, a4, ek, h2, d1, v58, hcr]
    cases decide (st ≠ 0) <;> rfl
  rw [decide_eq_true hc] at cp
  have hRN1 := gq_RN_fr hRN e2 gq_CN_CF
  by_cases h0 : st = 0
  · obtain ⟨D, d1, -⟩ := e7 S1 (gq_RR_of hRN1)
    rw [if_pos h0] at e1
    rw [decide_eq_false (by omega)] at d1
    have hfr : gh_fr gq_C2 S (gq_vr S1 D) := gh_fr_trans (gh_fr_mono e2 gq_C2_CF) (gq_vr_fr D (fun _ => rfl))
    have v58 : S1.1 58 a = nI (kd a) := (e2.1 58 a rfl).trans a2
    have v59 : S1.1 59 a = nI (kg a) := (e2.1 59 a rfl).trans a4
    refine ⟨-1, S1, gq_vr S1 D, ?_, by simp only [sX10_move, gq_bs, gq_B_eq, gq_B_ne, gq_B_gB, Bool.not_true, Bool.not_false, Bool.true_and, Bool.false_and, Bool.and_true, Bool.and_false, cond_true, cond_false, gh_isBin9, gh_isKind9, gh_isFarmer9, gh_within, gh_inR, gh_isBin10, gh_isKind10, Int32.toInt_toInt64, Int32.reduceToInt, Int64.reduceToInt, decide_true, decide_false, h1, raS, v58, v59, ek, h2, d1], gq_R12_C2 hR1 (gq_R2_vr D (gq_R2_CF hR2 e2)) hfr, gq_C12_R1 hfr⟩
    simp only [sX9_move, sX9_move_91, gq_bs, gq_B_eq, gq_B_ne, gq_B_gB, Bool.not_true, Bool.not_false, Bool.true_and, Bool.false_and, Bool.and_true, Bool.and_false, cond_true, cond_false, gh_isBin9, gh_isKind9, gh_isFarmer9, gh_within, gh_inR, gh_isBin10, gh_isKind10, Int32.toInt_toInt64, Int32.reduceToInt, Int64.reduceToInt, decide_true, decide_false, ct, h2, raS, a1, cp, e1]
    rfl
  · rw [if_neg h0] at e1
    have hm1' : gh_cmp .eq (nI best) (-1) = false := by
      rw [gh_c_eq, nI_toInt (by omega)]
      exact decide_eq_false (by show ¬ (best : Int) = -1; omega)
    obtain ⟨D0, -, w0⟩ := e7 S1 (gq_RR_of hRN1)
    obtain ⟨-, -, hw17⟩ := w0 h0
    obtain ⟨S2, S3, S4, k1, k2, k3, k4, k5, k6, k7, k8, k9⟩ := gq_go9 (q := kd a) (c := m) (best := best) N (by omega) hst5 (by omega) e6 hw17 (fun k hk => (hRN1.2.2.2.2.2.2.2.2 k hk).2.2.2.2.2.2.1) hRN1.2.2.2.2.2.2.1 ha8 hb8 hab ((e2.1 3 a rfl).trans a3) ((e2.2.1 5 a rfl).trans a7) ((e2.1 3 b rfl).trans b3) ((e2.2.1 5 b rfl).trans b7) (show 1 ≤ m by omega) (by omega) (by omega) hga
    have r9 : sX9_move N (nI a) (nI b) (nI m) S = some (nI best, S4) := by
      simp only [sX9_move, sX9_move_91, gq_bs, gq_B_eq, gq_B_ne, gq_B_gB, Bool.not_true, Bool.not_false, Bool.true_and, Bool.false_and, Bool.and_true, Bool.and_false, cond_true, cond_false, gh_isBin9, gh_isKind9, gh_isFarmer9, gh_within, gh_inR, gh_isBin10, gh_isKind10, Int32.toInt_toInt64, Int32.reduceToInt, Int64.reduceToInt, decide_true, decide_false, ct, h2, raS, a1, cp, e1, hm1', k1, k2, k3]
    have f4 : gh_fr gq_CM S S4 := gh_fr_trans (gh_fr_mono e2 (fun c k h => by unfold gq_CM; rw [h]; simp)) (gh_fr_mono k4 (fun c k h => by unfold gq_CM; rw [h]; simp))
    have hRR4 : gq_RR S4 ln A B M la cl u := gq_RR_fr (C := gq_CG) (gq_RR_of hRN1) k4 (fun c k hc => by
      cases e : gq_CG c k with
      | false => rfl
      | true =>
        unfold gq_CR at hc
        unfold gq_CG gq_C15 at e
        simp only [Bool.or_eq_true, Bool.and_eq_true, Nat.beq_eq, Nat.ble_eq] at hc e
        omega)
    have x57 : ∀ i, S4.1 57 i = S.1 57 i := fun i => (k4.1 57 i rfl).trans (e2.1 57 i rfl)
    have x58 : ∀ i, S4.1 58 i = S.1 58 i := fun i => (k4.1 58 i rfl).trans (e2.1 58 i rfl)
    have x59 : ∀ i, S4.1 59 i = S.1 59 i := fun i => (k4.1 59 i rfl).trans (e2.1 59 i rfl)
    have x60 : ∀ i, S4.2.1 60 i = S.2.1 60 i := fun i => (k4.2.1 60 i rfl).trans (e2.2.1 60 i rfl)
    obtain ⟨D, d1, w1⟩ := e7 S4 hRR4
    obtain ⟨hWY, hDa, hw17'⟩ := w1 h0
    rw [decide_eq_true h0] at d1
    have v58 : (gq_vr S4 D).1 58 a = nI (kd a) := (x58 a).trans a2
    have v59 : (gq_vr S4 D).1 59 a = nI (kg a) := (x59 a).trans a4
    have v60 : (gq_vr S4 D).2.1 60 a = lN (g a) := (x60 a).trans a8
    have w58 : (gq_vr S4 D).1 58 b = nI (kd b) := (x58 b).trans b2
    have w59 : (gq_vr S4 D).1 59 b = nI (kg b) := (x59 b).trans b4
    have w57 : (gq_vr S4 D).1 57 b = nI (rm b) := (x57 b).trans b6
    have w60 : (gq_vr S4 D).2.1 60 b = lN (g b) := (x60 b).trans b8
    have hcr := cpR (gq_vr S4 D) w58 w59 w57
    rw [decide_eq_true hc] at hcr
    have hdr := gq_dryOf N ha8 v59 v60 (by omega) (by omega) (show m ≤ kg a by omega) hga
    obtain ⟨T2, T3, T4, t1, t2, t3, t4, t5, t6, t7, t8, t9, t10, t11⟩ := gq_go10 (c := m) (m := m) N hWY (by omega) (best := best) (by omega) hDa (by omega) ha8 hb8 hab v59 v60 w59 w60 (by omega) (by omega) (by omega) hga
    have r10 : sX10_move N (nI a) (nI b) (nI m) S4 = some (nI best, T4) := by
      have t3 : T3.1 58 a = nI (kd a) := t3.trans v58
      simp only [sX10_move, gq_bs, gq_B_eq, gq_B_ne, gq_B_gB, Bool.not_true, Bool.not_false, Bool.true_and, Bool.false_and, Bool.and_true, Bool.and_false, cond_true, cond_false, gh_isBin9, gh_isKind9, gh_isFarmer9, gh_within, gh_inR, gh_isBin10, gh_isKind10, Int32.toInt_toInt64, Int32.reduceToInt, Int64.reduceToInt, decide_true, decide_false, h1, raS, x59, x58, a2, a4, ek, h2, d1, v58, hcr, hdr, t1, t2, t3, t5]
    have f5 : gh_fr gq_CM S4 T4 := gh_fr_trans (gq_vr_fr D (fun _ => rfl)) (gh_fr_mono t6 (fun c k h => by unfold gq_CM; rw [h]; simp))
    have fall : gh_fr gq_CM S T4 := gh_fr_trans f4 f5
    refine ⟨nI best, S4, T4, r9, r10, ?_, gh_fr_mono fall gq_CM_12⟩
    have cg : ∀ c, (∀ k, gq_CH c k = false) → c ≠ 83 → ∀ k, T4.1 c k = S4.1 c k := by
      intro c hc h83 k
      rw [t6.1 c k (hc k), gq_vr_1, if_neg (by omega)]
    have cgL : ∀ c, (∀ k, gq_CH c k = false) → ∀ k, T4.2.1 c k = S4.2.1 c k := fun c hc k => t6.2.1 c k (hc k)
    refine gq_mv_end (st := st) (wl := gq_wl A B (gq_cst M la cl (kd a)) ln a b D) hB hL hRN fall ha8 hb8 hab (show m ≤ kg a by omega) (gq_dle (show m ≤ kg a by omega)) hc.2 ?_ ?_ ?_ ?_ ?_ ?_ ?_ ?_ ?_ ?_ hu hbest ?_
    · intro i; rw [cg 2 (fun _ => rfl) (by omega), k5, e2.1 2 i rfl]
    · intro i; rw [t7]; show _ = if i = b then _ else S.1 58 i; rw [← x58 i]; rfl
    · intro i; rw [cg 3 (fun _ => rfl) (by omega), k6, e2.1 3 i rfl]
    · intro i; rw [t8]; show _ = if i = b then _ else if i = a then _ else S.1 59 i; rw [← x59 i]; rfl
    · intro i; rw [cgL 5 (fun _ => rfl), k7, e2.2.1 5 i rfl]
    · intro i; rw [t9]; show _ = if i = b then _ else if i = a then _ else S.2.1 60 i; rw [← x60 i]; rfl
    · intro k hk
      rw [cg 15 (fun _ => rfl) (by omega), k8 k hk]
      refine congrArg gq_kd (gq_sl_congr (fun i hi => ?_) k)
      have y1 := hw17 i hi
      have y2 := hw17' i hi
      have y3 := y1.1.symm.trans y2.1
      exact (nI_eq (by omega) (by omega)).mp y3
    · intro k hk; exact t10 k hk
    · rw [cgL 11 (fun _ => rfl)]; exact k9
    · exact t11
    · have l0 : ∀ k, T4.2.1 0 k = S.2.1 0 k := fun k => (cgL 0 (fun _ => rfl) k).trans ((k4.2.1 0 k rfl).trans (e2.2.1 0 k rfl))
      have l16 : T4.2.1 56 16 = S.2.1 56 16 := (t6.2.1 56 16 rfl).trans ((k4.2.1 56 16 rfl).trans (e2.2.1 56 16 rfl))
      have l17 : T4.2.1 56 17 = S.2.1 56 17 := (t6.2.1 56 17 rfl).trans ((k4.2.1 56 17 rfl).trans (e2.2.1 56 17 rfl))
      have l18 : T4.2.1 56 18 = S.2.1 56 18 := (t6.2.1 56 18 rfl).trans ((k4.2.1 56 18 rfl).trans (e2.2.1 56 18 rfl))
      unfold gq_RH at hH ⊢
      rw [l0, l0, l0, l16, l17, l18]
      exact hH
