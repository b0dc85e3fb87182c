/-! ===== move, dry: the calls ===== -/
theorem gq_C12_R1 {S S' : gh_St} (hf : gh_fr gq_C2 S S') : gh_fr gq_C12 S S' := gh_fr_mono hf gq_C12_2
section GqMove
variable {S : gh_St} {j : Nat} (N : Nat)
/-- what find and isWay tell, on any state that differs by cells of no matter -/
theorem gq_fw {S : gh_St} {n : Nat} {A B M la : Nat → Nat} {cl u : Nat} (h : gq_RN S n A B M la cl u) (hN : 2000000000 ≤ N) {q a b : Nat} (hq : q ≤ 3) (ha : a < 8) (hb : b < 8) (hab : a ≠ b) : ∃ (best st : Nat) (S1 : gh_St), best ≤ 1000 ∧ st ≤ 5 ∧ sX4_find N (nI q) (nI a) (nI b) S = some (if st = 0 then -1 else nI best, S1) ∧ gh_fr gq_CF S S1 ∧ S1.1 11 6 = nI st ∧
    (∀ T : gh_St, gq_RR T n A B M la cl u → ∃ D, sX10_isWay N (nI q) (nI a) (nI b) T = some (gq_B (decide (st ≠ 0)), gq_vr T D) ∧ (st ≠ 0 → gq_WY (gq_vr T D) n A B M la cl u q a b D st ∧ D a = 100 * best + st ∧ ∀ i, i < st → S1.1 17 i = nI (gq_wl A B (gq_cst M la cl q) n a b D i) ∧ gq_wl A B (gq_cst M la cl q) n a b D i < 20)) := by
  obtain ⟨best, st, L, S1, hL, hB, e1, e2, e3, e4⟩ := gq_find N h hN hq ha hb hab
  have hst5 := hB.1
  by_cases h0 : st = 0
  · refine ⟨0, st, S1, by omega, hst5, ?_, e2, e3, fun T hT => ?_⟩
    · rw [e1, if_pos h0, if_pos h0]
    · obtain ⟨D, d1, d2⟩ := gq_isWay N hT hN hq ha hb hab
      have hbd := gq_D_best ha hb hab (gq_RN_AB h) hL d2 hB
      refine ⟨D, ?_, fun h => absurd h0 h⟩
      rw [d1, decide_eq_false (hbd.1 h0), decide_eq_false (by omega)]
  · obtain ⟨b1, b2, -⟩ := hB.2.2.2 h0
    have hsm := gq_L_small h hL st a hst5 (by omega) (by omega)
    refine ⟨best, st, S1, by omega, hst5, e1, e2, e3, fun T hT => ?_⟩
    obtain ⟨D, d1, d2⟩ := gq_isWay N hT hN hq ha hb hab
    have hbd := gq_D_best ha hb hab (gq_RN_AB h) hL d2 hB
    obtain ⟨f1, f2⟩ := hbd.2 h0
    have hR2 : gq_RR (gq_vr T D) n A B M la cl u := gq_RR_fr (C := fun c _ => Nat.beq c 83) hT (gq_vr_fr D (fun _ => rfl)) (fun c k hc => by
      cases e : Nat.beq c 83 with
      | false => rfl
      | true =>
        unfold gq_CR at hc
        simp only [Bool.or_eq_true, Bool.and_eq_true, Nat.beq_eq, Nat.ble_eq] at hc e
        omega)
    have hWY := gq_WY_of hR2 hq ha hb hab (fun w hw => gq_vr_r T D hw) hL d2 hB h0
    refine ⟨D, ?_, fun _ => ⟨hWY, f1, fun i hi => ⟨e4 h0 D d2 i hi, ?_⟩⟩⟩
    · rw [d1, decide_eq_true f2, decide_eq_true h0]
    · have := hWY.2.2.2.2.2.2.2.1 i hi
      have := h.1
      omega
theorem gq_R2_CF {S S' : gh_St} (h : gq_R2 j S) (hf : gh_fr gq_CF S S') : gq_R2 j S' := by
  obtain ⟨n, A, B, M, la, cl, u, h1, h2⟩ := h
  exact ⟨n, A, B, M, la, cl, u, gq_RN_fr h1 hf gq_CN_CF, h2⟩
theorem gq_R2_vr {S : gh_St} (D : Nat → Nat) (h : gq_R2 j S) : gq_R2 j (gq_vr S D) := by
  obtain ⟨n, A, B, M, la, cl, u, h1, h2⟩ := h
  refine ⟨n, A, B, M, la, cl, u, gq_RN_fr (C := fun c _ => Nat.beq c 83) h1 (gq_vr_fr D (fun _ => rfl)) (fun c k hc => ?_), h2⟩
  cases e : Nat.beq c 83 with
  | false => rfl
  | true =>
    unfold gq_CN at hc
    simp only [Bool.or_eq_true, Bool.and_eq_true, Nat.beq_eq, Nat.ble_eq] at hc e
    omega
theorem gq_RN_far {S S' : gh_St} {n : Nat} {A B M la : Nat → Nat} {cl u : Nat} {C : Nat → Nat → Bool} {la' : Nat → Nat} {u' : Nat} (h : gq_RN S n A B M la cl u) (hf : gh_fr C S S') (hC : ∀ c k, gq_CN c k = true → C c k = true → c = 15 ∨ c = 68 ∨ (c = 11 ∧ k = 9) ∨ (c = 56 ∧ k = 15)) (h15 : ∀ k, k < 20 → S'.1 15 k = gq_kd (la' k)) (h68 : ∀ k, k < 20 → S'.1 68 k = gq_kd (la' k)) (hla : ∀ k, k < 20 → la' k ≤ 4) (h9 : S'.2.1 11 9 = lN u') (h156 : S'.1 56 15 = nI u') : gq_RN S' n A B M la' cl u' := by
  obtain ⟨h1, h2, h3, h4, h5, h6, h7, h8, h9'⟩ := h
  have cf : ∀ c k, gq_CN c k = true → ¬ (c = 15 ∨ c = 68 ∨ (c = 11 ∧ k = 9) ∨ (c = 56 ∧ k = 15)) → C c k = false := by
    intro c k hc hn
    cases e : C c k with
    | false => rfl
    | true => exact absurd (hC c k hc e) hn
  refine ⟨h1, h2, ?_, ?_, ?_, ?_, h9, h156, fun k hk => ?_⟩
  · rw [hf.1 _ _ (cf 11 7 rfl (by omega))]; exact h3
  · rw [hf.1 _ _ (cf 56 9 rfl (by omega))]; exact h4
  · rw [hf.1 _ _ (cf 11 8 rfl (by omega))]; exact h5
  · rw [hf.1 _ _ (cf 56 14 rfl (by omega))]; exact h6
  · obtain ⟨l1, l2, l3, l4, l5, l6, l7, l8, l9, l10, l11, l12, l13⟩ := h9' k hk
    rw [h15 k hk, h68 k hk, hf.1 12 k (cf 12 k rfl (by omega)), hf.1 13 k (cf 13 k rfl (by omega)), hf.1 14 k (cf 14 k rfl (by omega)), hf.1 65 k (cf 65 k rfl (by omega)), hf.1 66 k (cf 66 k rfl (by omega)), hf.1 67 k (cf 67 k rfl (by omega))]
    exact ⟨l1, l2, l3, l4, l5, l6, rfl, rfl, l9, l10, l11, hla k hk, l13⟩
def gq_CM (c k : Nat) : Bool := gq_CF c k || gq_CG c k || gq_CH c k || Nat.beq c 83 || (Nat.beq c 0 && Nat.beq k 10) || (Nat.beq c 56 && Nat.beq k 16)
theorem gq_CM_12 (c k : Nat) (h : gq_CM c k = true) : gq_C12 c k = true := by
  unfold gq_CM gq_CF gq_CG gq_CH gq_C15 gq_C68 at h
  unfold gq_C12 gq_C1 gq_C2
  simp only [Bool.or_eq_true, Bool.and_eq_true, Nat.beq_eq, Nat.ble_eq] at h ⊢
  omega
/-- the last states of a move or a drying meet the invariant -/
theorem gq_mv_end {S T : gh_St} {n : Nat} {kd kg rm g fa ki mo gr : Nat → Nat} {ln : Nat} {A B M la : Nat → Nat} {cl u : Nat} {a b m c x best st : Nat} {wl : Nat → Nat} (hB : gq_RB S n kd kg rm g) (hL : gq_RL S n fa ki mo gr) (hR : gq_RN S ln A B M la cl u) (hf : gh_fr gq_CM S T) (ha : a < 8) (hb : b < 8) (hab : a ≠ b) (hm : m ≤ kg a) (hx : x ≤ g a) (hc : kg b + c ≤ rm b)
    (e2 : ∀ i, T.1 2 i = if i = b then nI (kd a) else S.1 2 i) (e58 : ∀ i, T.1 58 i = if i = b then nI (kd a) else S.1 58 i)
    (e3 : ∀ i, T.1 3 i = if i = b then nI (kg b + c) else if i = a then nI (kg a - m) else S.1 3 i) (e59 : ∀ i, T.1 59 i = if i = b then nI (kg b + c) else if i = a then nI (kg a - m) else S.1 59 i)
    (e5 : ∀ i, T.2.1 5 i = if i = b then lN (g b + x) else if i = a then lN (g a - x) else S.2.1 5 i) (e60 : ∀ i, T.2.1 60 i = if i = b then lN (g b + x) else if i = a then lN (g a - x) else S.2.1 60 i)
    (h15 : ∀ k, k < 20 → T.1 15 k = gq_kd (gq_sl la wl (kd a + 1) st k)) (h68 : ∀ k, k < 20 → T.1 68 k = gq_kd (gq_sl la wl (kd a + 1) st k)) (h9 : T.2.1 11 9 = lN (u + best)) (h156 : T.1 56 15 = nI (u + best)) (hu : u ≤ 1000 * j) (hbest : best ≤ 1000) (hH : gq_RH T) : gq_R12 (j + 1) T := by
  have hkd : kd a ≤ 3 := (hB.1 a ha).2.2.2.2.2.2.2.2.1
  have hRB := gq_mv_RB hB ha hb hab hm hx hc (fun i => hf.1 4 i rfl) (fun i => hf.1 57 i rfl) e2 e58 e3 e59 e5 e60
  refine ⟨⟨n, _, _, rm, _, fa, ki, mo, gr, hRB, gq_RL_fr hL hf rfl rfl ?_, hH⟩, ⟨ln, A, B, M, _, cl, u + best, gq_RN_far hR hf ?_ h15 h68 (fun k hk => gq_sl_le (by omega) (hR.2.2.2.2.2.2.2.2 k hk).2.2.2.2.2.2.2.2.2.2.2.1 st) h9 h156, by omega⟩⟩
  · intro c k hck
    cases e : gq_CM c k with
    | false => rfl
    | true =>
      unfold gq_CM gq_CF gq_CG gq_CH gq_C15 gq_C68 at e
      simp only [Bool.or_eq_true, Bool.and_eq_true, Nat.beq_eq, Nat.ble_eq] at e
      omega
  · intro c k h1 h2
    unfold gq_CM gq_CF gq_CG gq_CH gq_C15 gq_C68 at h2
    unfold gq_CN at h1
    simp only [Bool.or_eq_true, Bool.and_eq_true, Nat.beq_eq, Nat.ble_eq] at h1 h2
    omega
end GqMove
