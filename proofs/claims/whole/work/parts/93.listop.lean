/-! ===== list, the operation ===== -/
theorem gl_CKn {b : Bool} {c k : Nat} (h : c < 45 ∨ 55 < c) : gl_CK b c k = false := gf_bf (fun w => by
  have hp := gl_pl b
  unfold gl_CK at w
  simp only [Bool.or_eq_true, Bool.and_eq_true, Nat.beq_eq, Nat.ble_eq] at w
  omega)
theorem gl_CKo {b : Bool} {j k : Nat} (hj : j ≤ 4) : gl_CK (!b) (gh_pl b + j) k = false := gf_bf (fun w => by
  unfold gl_CK gh_pl at w
  cases b
  · simp only [cond_false, cond_true, Bool.not_false, Bool.or_eq_true, Bool.and_eq_true, Nat.beq_eq, Nat.ble_eq] at w
    omega
  · simp only [cond_false, cond_true, Bool.not_true, Bool.or_eq_true, Bool.and_eq_true, Nat.beq_eq, Nat.ble_eq] at w
    omega)
theorem gl_C_CK {b : Bool} : ∀ c k, gl_CK b c k = true → gl_C c k = true := by
  intro c k h
  have hc : ¬ (c < 45 ∨ 55 < c) := fun w => by rw [gl_CKn w] at h; cases h
  unfold gl_C
  simp only [Bool.or_eq_true, Bool.and_eq_true, Nat.beq_eq, Nat.ble_eq]
  omega
theorem gl_C_CQ : ∀ c k, gl_CQ c k = true → gl_C c k = true := by
  intro c k h
  unfold gl_CQ at h
  unfold gl_C
  simp only [Bool.or_eq_true, Bool.and_eq_true, Nat.beq_eq, Nat.ble_eq] at h ⊢
  omega
theorem gl_m1 {c : Nat} (hc : c ≤ 1000) : gh_cmp .eq (nI c) (-1) = false := by
  rw [gh_c_eq, nI_toInt (by omega)]
  refine decide_eq_false (fun w => ?_)
  have w : (c : Int) = -1 := w
  omega
/-- places of the reference that the list's reading changes -/
def gl_CR9 (c k : Nat) : Bool := (Nat.ble 77 c && Nat.ble c 82) || (Nat.beq c 56 && ((Nat.ble 31 k && Nat.ble k 39) || Nat.beq k 41 || Nat.beq k 45))
theorem gl_CR9_CQ : ∀ c k, gl_CQ c k = true → gl_CR9 c k = true := by
  intro c k h
  unfold gl_CQ at h
  unfold gl_CR9
  simp only [Bool.or_eq_true, Bool.and_eq_true, Nat.beq_eq, Nat.ble_eq] at h ⊢
  omega
theorem gl_C_CR9 : ∀ c k, gl_CR9 c k = true → gl_C c k = true := by
  intro c k h
  unfold gl_CR9 at h
  unfold gl_C
  simp only [Bool.or_eq_true, Bool.and_eq_true, Nat.beq_eq, Nat.ble_eq] at h ⊢
  omega
/-- what the reference's reading comes to -/
def gl_outL (S S' : gh_St) (m : Option (Int32 × gh_St)) (r : Sum (Nat × Nat) (Nat × gl_PP)) : Prop :=
  (match r with
    | .inl (f, p) => m = some (-1, S') ∧ S'.1 56 38 = nI f ∧ S'.1 56 39 = nI p ∧ S'.1 56 45 = S.1 56 45 ∧ (∀ k, S'.1 80 k = S.1 80 k ∧ S'.1 81 k = S.1 81 k ∧ S'.1 82 k = S.1 82 k)
    | .inr (c, P') => m = some (nI c, S') ∧ S'.1 56 38 = 0 ∧ S'.1 56 39 = -1 ∧ S'.1 56 45 = nI P'.2.1 ∧ (∀ k, k < 4 → S'.1 80 k = nI ((P'.1 k).getD 0)) ∧ (∀ i, i < P'.2.1 → S'.1 81 i = nI (P'.2.2.1 i) ∧ S'.1 82 i = nI (P'.2.2.2 i))) ∧ S'.1 56 31 = 0 ∧ gh_fr gl_CR9 S S'
theorem gl_listR (N : Nat) (hN : 300 ≤ N) {n : Nat} {bs : Nat → Nat} (hn : n ≤ 200) (hb : ∀ k, bs k < 256) {S : gh_St} (hV : gt_V S n bs) : ∃ S', gl_outL S S' (sX10_list N S) (gl_parse n bs (n + 1) 0 0 gl_P0) := by
  obtain ⟨T, hT⟩ : ∃ T, T = gh_fI (gh_fI (gh_fI (gh_fI (gh_fI S 56 31 0) 56 32 0) 56 36 0) 56 37 (-1)) 56 41 0 := ⟨_, rfl⟩
  have fT : gh_fr gl_CR9 S T := by
    rw [hT]
    repeat first | exact gh_fr_refl _ _ | refine gh_fr_fI ?_ rfl
  obtain ⟨S1, a1, a2, a3⟩ := gl_34 N 4 0 N T (nI n) 0 (by omega) (by omega) (fun i hi => absurd hi (Nat.not_lt_zero _))
  have hV1 : gl_VR S1 bs := fun k hk => by
    rw [a3.1 76 k rfl, fT.1 76 k rfl]
    exact hV.2 k hk
  have t56 : ∀ k, S1.1 56 k = T.1 56 k := fun k => a3.1 56 k rfl
  have h32 : S1.1 56 32 = nI 0 := by rw [t56, hT]; simp [gh_fI_1]; rfl
  obtain ⟨S2, b1, b2, b3, b4, b5, b6, b7⟩ := gl_nextR (n := n) (bs := bs) (a := 0) N hN hn hb (Nat.zero_le _) hV1 h32
  have hL : gl_LR S2 gl_P0 := by
    refine ⟨?_, by show 0 ≤ 8; omega, fun k hk => ⟨?_, by show 0 ≤ 9999; omega⟩, fun i hi => absurd hi (Nat.not_lt_zero _)⟩
    · rw [b7.1 56 41 rfl, t56, hT]
      simp [gh_fI_1]
      rfl
    · rw [b7.1 77 k rfl, a2 k hk]
      rfl
  have hS2 : gl_S2 S2 n bs 0 gl_P0 := ⟨fun k hk => (b7.1 76 k rfl).trans (hV1 k hk), ⟨b2, b3, b4, b5, b6⟩, by rw [b7.1 56 36 rfl, t56, hT]; simp [gh_fI_1], by rw [b7.1 56 37 rfl, t56, hT]; simp [gh_fI_1], hL⟩
  have f2 : gh_fr gl_CR9 S S2 := gh_fr_trans fT (gh_fr_trans (gh_fr_mono a3 (fun c k h => by
    have h := Nat.eq_of_beq_eq_true h
    rw [h]
    rfl)) (gh_fr_mono b7 (fun c k h => gl_CR9_CQ c k (gl_CQ_CM c k h))))
  have k2 : (∀ k, S2.1 80 k = S.1 80 k ∧ S2.1 81 k = S.1 81 k ∧ S2.1 82 k = S.1 82 k) ∧ S2.1 56 45 = S.1 56 45 ∧ S2.1 56 31 = 0 := by
    refine ⟨fun k => ⟨?_, ?_, ?_⟩, ?_, ?_⟩
    · rw [b7.1 80 k rfl, a3.1 80 k rfl, hT]; simp [gh_fI_1]
    · rw [b7.1 81 k rfl, a3.1 81 k rfl, hT]; simp [gh_fI_1]
    · rw [b7.1 82 k rfl, a3.1 82 k rfl, hT]; simp [gh_fI_1]
    · rw [b7.1 56 45 rfl, t56, hT]; simp [gh_fI_1]
    · rw [b7.1 56 31 rfl, t56, hT]; simp [gh_fI_1]
  obtain ⟨S3, c1, c2⟩ := gl_57 (n := n) (bs := bs) N hN hn hb (n + 1) 0 N 0 gl_P0 S2 (by omega) (by omega) (Nat.zero_le _) hS2
  have em : sX10_list N S = sX10_list_57 N N (nI n) (nI 0) S2 := by
    unfold sX10_list
    rw [hV.1, ← hT]
    refine Eq.trans a1 ?_
    rw [b1, gq_bs]
    rfl
  rw [em]
  have k3 : (∀ k, S3.1 80 k = S.1 80 k ∧ S3.1 81 k = S.1 81 k ∧ S3.1 82 k = S.1 82 k) ∧ S3.1 56 45 = S.1 56 45 ∧ S3.1 56 31 = 0 :=
    ⟨fun k => ⟨(c2.1 80 k rfl).trans (k2.1 k).1, (c2.1 81 k rfl).trans (k2.1 k).2.1, (c2.1 82 k rfl).trans (k2.1 k).2.2⟩, (c2.1 56 45 rfl).trans k2.2.1, (c2.1 56 31 rfl).trans k2.2.2⟩
  have f3 : gh_fr gl_CR9 S S3 := gh_fr_trans f2 (gh_fr_mono c2 gl_CR9_CQ)
  generalize sX10_list_57 N N (nI n) (nI 0) S2 = m at c1 ⊢
  -- what is told of the faults
  obtain ⟨U, hU⟩ : ∃ U, U = gh_fI (gh_fI S3 56 38 (S3.1 56 36)) 56 39 (S3.1 56 37) := ⟨_, rfl⟩
  have e82 : ∀ x, sX10_list_82 N x S3 = bif gh_cmp .le (S3.1 56 36) 0 then sX10_list_109 N N x 0 U else some (-1, U) := fun x => by
    unfold sX10_list_82
    rw [show (gh_fI S3 56 38 (S3.1 56 36)).1 56 37 = S3.1 56 37 from by rw [gh_fI_1, if_neg (by omega)], ← hU, show U.1 56 36 = S3.1 56 36 from by rw [hU]; simp [gh_fI_1]]
  have fU : gh_fr gl_CR9 S U := by
    rw [hU]
    exact gh_fr_fI (gh_fr_fI f3 rfl) rfl
  have u38 : U.1 56 38 = S3.1 56 36 := by rw [hU]; simp [gh_fI_1]
  have u39 : U.1 56 39 = S3.1 56 37 := by rw [hU]; simp [gh_fI_1]
  have uo : ∀ c k, c ≠ 56 ∨ (k ≠ 38 ∧ k ≠ 39) → U.1 c k = S3.1 c k := fun c k h => by rw [hU, gh_fI_1, if_neg (by omega), gh_fI_1, if_neg (by omega)]
  generalize gl_parse n bs (n + 1) 0 0 gl_P0 = r at c1 ⊢
  cases r with
  | inl x =>
    obtain ⟨f, p⟩ := x
    obtain ⟨c', d1, d2, d3, d4, d5⟩ := c1
    refine ⟨U, ⟨?_, by rw [u38]; exact d2, by rw [u39]; exact d3, by rw [uo 56 45 (by omega)]; exact k3.2.1, fun k => ?_⟩, by rw [uo 56 31 (by omega)]; exact k3.2.2, fU⟩
    · rw [d1, e82, d2, show gh_cmp .le (nI f) 0 = decide (f ≤ 0) from gh_n_le (b := 0) (by omega) (by omega), decide_eq_false (by omega), cond_false]
    · rw [uo 80 k (by omega), uo 81 k (by omega), uo 82 k (by omega)]
      exact k3.1 k
  | inr x =>
    obtain ⟨c, P'⟩ := x
    obtain ⟨d1, d2, d3, d4⟩ := c1
    have hLU : gl_LR U P' := ⟨by rw [uo 56 41 (by omega)]; exact d4.1, d4.2.1, fun k hk => by rw [uo 77 k (by omega)]; exact d4.2.2.1 k hk, fun i hi => by rw [uo 78 i (by omega), uo 79 i (by omega)]; exact d4.2.2.2 i hi⟩
    obtain ⟨S4, e1, e2, e3, e4, e5⟩ := gl_109 (P := P') N (by omega) (c := nI c) 4 0 N U (by omega) (by omega) hLU (fun i hi => absurd hi (Nat.not_lt_zero _))
    refine ⟨S4, ⟨?_, ?_, ?_, e3, e2, e4⟩, ?_, gh_fr_trans fU (gh_fr_mono e5 (fun c k h => ?_))⟩
    · rw [d1, e82, d2, show gh_cmp .le (0 : Int32) 0 = true from rfl, cond_true]
      exact e1
    · rw [e5.1 56 38 rfl, u38, d2]
    · rw [e5.1 56 39 rfl, u39, d3]
    · rw [e5.1 56 31 rfl, uo 56 31 (by omega)]
      exact k3.2.2
    · unfold gl_CR9
      simp only [Bool.or_eq_true, Bool.and_eq_true, Nat.beq_eq, Nat.ble_eq] at h ⊢
      omega
theorem gl_list (N : Nat) (hN : 300 ≤ N) {S : gh_St} (hR : gl_R S) : ∃ x S1 S2, sX9_list N S = some (x, S1) ∧ sX10_list N S1 = some (x, S2) ∧ gl_R S2 ∧ gh_fr gl_C S (S2.1, S2.2.1, S.2.2) := by
  obtain ⟨⟨n, bs, hn, hb, hW, hV⟩, hF, hP⟩ := hR
  obtain ⟨S1, a1, a2, a3⟩ := gl_readC (n := n) (bs := bs) (b := !S.2.2) N hN hn hb hW
  have hR2 : ∀ T : gh_St, (∀ c k, c ≠ 43 ∨ k ≠ 1 → T.1 c k = S1.1 c k) → gt_V T n bs := fun T hT => ⟨by rw [hT 56 31 (by omega), a3.1 56 31 (gl_CKn (by omega))]; exact hV.1, fun k hk => by rw [hT 76 k (by omega), a3.1 76 k (gl_CKn (by omega))]; exact hV.2 k hk⟩
  have eI : ∀ (x : Int32) c k, c ≠ 43 ∨ k ≠ 1 → (gh_fI S1 43 1 x).1 c k = S1.1 c k := fun x c k h => by rw [gh_fI_1, if_neg (by omega)]
  have e43 : (gh_fI S1 43 1 0).1 43 1 = 0 := by rw [gh_fI_1, if_pos ⟨rfl, rfl⟩]
  have fr1 : gh_fr gl_C S (gh_fI S1 43 1 0) := gh_fr_fI (gh_fr_mono a3 gl_C_CK) rfl
  generalize hr : gl_parse n bs (n + 1) 0 0 gl_P0 = r at a1
  cases r with
  | inl x =>
    obtain ⟨f, p⟩ := x
    obtain ⟨b1, b2, b3⟩ := a1
    obtain ⟨S2, c1, c2, c3⟩ := gl_listR N hN hn hb (hR2 (gh_fI S1 43 1 0) (eI 0))
    rw [hr] at c1
    obtain ⟨d1, d2, d3, d4, d5⟩ := c1
    have k2 : ∀ c k, gl_CR9 c k = false → c ≠ 43 ∨ k ≠ 1 → S2.1 c k = S1.1 c k := fun c k h h' => (c3.1 c k h).trans (eI 0 c k h')
    have k45 : ∀ k, S2.1 45 k = S1.1 45 k := fun k => k2 45 k rfl (by omega)
    have s22 : S2.2.2 = S.2.2 := c3.2.2.trans a3.2.2
    have kp : ∀ j k, j ≤ 4 → S2.1 (gh_pl S.2.2 + j) k = S.1 (gh_pl S.2.2 + j) k := fun j k hj => by
      have hp := gl_pl S.2.2
      rw [k2 _ k (gf_bf (fun w => by
        unfold gl_CR9 at w
        simp only [Bool.or_eq_true, Bool.and_eq_true, Nat.beq_eq, Nat.ble_eq] at w
        omega)) (by omega)]
      exact a3.1 _ k (gl_CKo hj)
    refine ⟨-1, gh_fI S1 43 1 0, S2, ?_, d1, ⟨⟨0, bs, by omega, hb, ⟨?_, fun k hk => ?_⟩, ⟨c2, fun k hk => ?_⟩⟩, ⟨true, ?_, fun _ => ⟨?_, ?_⟩, fun h => (by cases h)⟩, ?_⟩, gh_fr_trans fr1 ⟨fun c k h => ?_, fun c k h => ?_, a3.2.2.symm⟩⟩
    · unfold sX9_list
      rw [b1, gq_bs]
      rfl
    · rw [c3.1 43 1 rfl, e43]
      rfl
    · rw [k2 44 k rfl (by omega), a3.1 44 k (gl_CKn (by omega))]
      exact hW.2 k hk
    · rw [k2 76 k rfl (by omega), a3.1 76 k (gl_CKn (by omega))]
      exact hV.2 k hk
    · rw [k45]
      exact a2
    · rw [k45, b2, d2]
    · rw [k45, b3, d3]
    · obtain ⟨nd, da, dl, pc, h1, h2, h3, h4, h5⟩ := hP
      have kc : ∀ c k, 80 ≤ c → c ≤ 82 → (gh_fI S1 43 1 0).1 c k = S.1 c k := fun c k h1 h2 => (eI 0 c k (by omega)).trans (a3.1 c k (gl_CKn (by omega)))
      refine ⟨nd, da, dl, pc, h1, ?_, ?_, fun k hk => ?_, fun i hi => ?_⟩
      · rw [s22]
        exact (kp 0 4 (by omega)).trans h2
      · rw [d4, eI 0 56 45 (by omega), a3.1 56 45 (gl_CKn (by omega))]
        exact h3
      · rw [s22, kp 1 k (by omega), (d5 k).1, kc 80 k (by omega) (by omega)]
        exact h4 k hk
      · rw [s22, kp 3 i (by omega), kp 4 i (by omega), (d5 i).2.1, (d5 i).2.2, kc 81 i (by omega) (by omega), kc 82 i (by omega) (by omega)]
        exact h5 i hi
    · exact (gh_fr_mono c3 gl_C_CR9).1 c k h
    · exact (gh_fr_mono c3 gl_C_CR9).2.1 c k h
  | inr x =>
    obtain ⟨c, P'⟩ := x
    obtain ⟨b1, b2, b3, b4, b5⟩ := a1
    obtain ⟨T, hT⟩ : ∃ T : gh_St, T = ((gh_fI S1 43 1 0).1, S1.2.1, !S1.2.2) := ⟨_, rfl⟩
    have T1 : T.1 = (gh_fI S1 43 1 0).1 := by rw [hT]
    obtain ⟨S2, c1, c2, c3⟩ := gl_listR N hN hn hb (hR2 T (fun c k h => by rw [T1]; exact eI 0 c k h))
    rw [hr] at c1
    obtain ⟨d1, d2, d3, d4, d5, d6⟩ := c1
    have k2 : ∀ c k, gl_CR9 c k = false → c ≠ 43 ∨ k ≠ 1 → S2.1 c k = S1.1 c k := fun c k h h' => (c3.1 c k h).trans (by rw [T1]; exact eI 0 c k h')
    have k45 : ∀ k, S2.1 45 k = S1.1 45 k := fun k => k2 45 k rfl (by omega)
    have s22 : S2.2.2 = !S.2.2 := by
      rw [c3.2.2, hT]
      show (!S1.2.2) = _
      rw [a3.2.2]
    have kp : ∀ j k, j ≤ 4 → S2.1 (gh_pl (!S.2.2) + j) k = S1.1 (gh_pl (!S.2.2) + j) k := fun j k hj => by
      have hp := gl_pl (!S.2.2)
      exact k2 _ k (gf_bf (fun w => by
        unfold gl_CR9 at w
        simp only [Bool.or_eq_true, Bool.and_eq_true, Nat.beq_eq, Nat.ble_eq] at w
        omega)) (by omega)
    refine ⟨nI c, T, S2, ?_, d1, ⟨⟨0, bs, by omega, hb, ⟨?_, fun k hk => ?_⟩, ⟨c2, fun k hk => ?_⟩⟩, ⟨true, ?_, fun _ => ⟨?_, ?_⟩, fun h => (by cases h)⟩, ?_⟩, ⟨fun c k h => ?_, fun c k h => ?_, rfl⟩⟩
    · unfold sX9_list
      rw [b1, gq_bs]
      dsimp only
      rw [gl_m1 b2, cond_false, hT]
    · rw [c3.1 43 1 rfl, T1, e43]
      rfl
    · rw [k2 44 k rfl (by omega), a3.1 44 k (gl_CKn (by omega))]
      exact hW.2 k hk
    · rw [k2 76 k rfl (by omega), a3.1 76 k (gl_CKn (by omega))]
      exact hV.2 k hk
    · rw [k45]
      exact a2
    · rw [k45, b3, d2]
    · rw [k45, b4, d3]
    · obtain ⟨h1, h2, h3, h4⟩ := b5
      refine ⟨P'.2.1, P'.2.2.1, P'.2.2.2, fun k => (P'.1 k).getD 0, h2, ?_, d4, fun k hk => ?_, fun i hi => ?_⟩
      · rw [s22]
        exact (kp 0 4 (by omega)).trans h1
      · rw [s22, kp 1 k (by omega)]
        exact ⟨(h3 k hk).1, d5 k hk, (h3 k hk).2.2⟩
      · rw [s22, kp 3 i (by omega), kp 4 i (by omega)]
        exact ⟨(h4 i hi).1, (d6 i hi).1, (h4 i hi).2.1, (d6 i hi).2, (h4 i hi).2.2.1, (h4 i hi).2.2.2⟩
    · show S2.1 c k = S.1 c k
      rw [(gh_fr_mono c3 gl_C_CR9).1 c k h, T1]
      exact fr1.1 c k h
    · show S2.2.1 c k = S.2.1 c k
      rw [(gh_fr_mono c3 gl_C_CR9).2.1 c k h, hT]
      exact fr1.2.1 c k h
