/-! ===== the first state keeps the invariant ===== -/
theorem gx_i1 : gq_R1 gh_S0 := by
  refine ⟨0, fun _ => 0, fun _ => 0, fun _ => 100000, fun _ => 0, fun _ => 0, fun _ => 0, fun _ => 0, fun _ => 0, ⟨fun b hb => ?_, Nat.zero_le _⟩, ⟨by omega, gx_s3.1, gx_s3.2.1, fun k hk => ?_⟩, gx_s3.2.2⟩
  · have h := List.all_eq_true.mp gx_s1 b (List.mem_range.mpr hb)
    simp only [Bool.and_eq_true, decide_eq_true_eq] at h
    obtain ⟨⟨⟨⟨⟨⟨⟨h1, h2⟩, h3⟩, h4⟩, h5⟩, h6⟩, h7⟩, h8⟩ := h
    exact ⟨h1, h2, h3, h4, h5, h6, h7, h8, Nat.le_of_ble_eq_true rfl, Nat.le_of_ble_eq_true rfl, Nat.le_of_ble_eq_true rfl⟩
  · have h := List.all_eq_true.mp gx_s2 k (List.mem_range.mpr hk)
    simp only [Bool.and_eq_true, decide_eq_true_eq] at h
    obtain ⟨⟨⟨⟨⟨⟨⟨h1, h2⟩, h3⟩, h4⟩, h5⟩, h6⟩, h7⟩, h8⟩ := h
    exact ⟨h1, h2, h3, h4, h5, h6, h7, h8, Nat.le_of_ble_eq_true rfl, Nat.le_of_ble_eq_true rfl, Nat.le_of_ble_eq_true rfl, Nat.le_of_ble_eq_true rfl⟩
theorem gx_i2 : gq_R2 0 gh_S0 := by
  obtain ⟨a1, a2, a3, a4, a5, a6⟩ := gx_s4
  refine ⟨0, fun _ => 0, fun _ => 0, fun _ => 0, fun _ => 1, 10, 0, ⟨by omega, by omega, a1, a2, a3, a4, a5, a6, fun k hk => ?_⟩, by omega⟩
  have h := List.all_eq_true.mp gx_s5 k (List.mem_range.mpr hk)
  simp only [Bool.and_eq_true, decide_eq_true_eq] at h
  obtain ⟨⟨⟨⟨⟨⟨⟨h1, h2⟩, h3⟩, h4⟩, h5⟩, h6⟩, h7⟩, h8⟩ := h
  exact ⟨h1, h2, h3, h4, h5, h6, h7, h8, Nat.le_of_ble_eq_true rfl, Nat.le_of_ble_eq_true rfl, Nat.le_of_ble_eq_true rfl, Nat.le_of_ble_eq_true rfl, fun h => absurd h (Nat.not_lt_zero _)⟩
theorem gx_i3 : gr_R gh_S0 := by
  obtain ⟨a1, a2, a3, a4, a5, a6, a7, a8⟩ := gx_s6
  refine ⟨0, fun _ => 0, fun _ => 0, fun _ => 0, 10, 5, fun _ => 0, true, ⟨by omega, by omega, by omega, by omega, a1, a2, a3, a4, a5, a6, fun k hk => ?_⟩, fun k hk => absurd hk (Nat.not_lt_zero _), ⟨List.Perm.refl _, fun i j _ h => absurd h (Nat.not_lt_zero _)⟩, a7, fun _ => ⟨0, [], rfl, a8, fun k hk => absurd hk (Nat.not_lt_zero _), fun k hk => absurd hk (Nat.not_lt_zero _)⟩⟩
  have h := List.all_eq_true.mp gx_s7 k (List.mem_range.mpr hk)
  simp only [Bool.and_eq_true, decide_eq_true_eq] at h
  obtain ⟨⟨⟨⟨⟨h1, h2⟩, h3⟩, h4⟩, h5⟩, h6⟩ := h
  exact ⟨h1, h2, h3, h4, h5, h6, Nat.le_of_ble_eq_true rfl, Nat.le_of_ble_eq_true rfl, Nat.le_of_ble_eq_true rfl⟩
theorem gx_i4 : gf_R gh_S0 := by
  obtain ⟨a1, a2, a3, a4⟩ := gx_s8
  have hmk : gf_mk (fun _ => false) = 0 := by decide
  have h10 : ∀ k, k < 8 → gh_S0.1 29 k = nI 0 ∧ gh_S0.1 74 k = nI 0 ∧ gh_S0.1 30 k = nI 12 ∧ gh_S0.1 75 k = nI 12 ∧ gh_S0.1 36 k = nI 0 := fun k hk => by
    have h := List.all_eq_true.mp gx_s10 k (List.mem_range.mpr hk)
    simp only [Bool.and_eq_true, decide_eq_true_eq] at h
    obtain ⟨⟨⟨⟨h1, h2⟩, h3⟩, h4⟩, h5⟩ := h
    exact ⟨h1, h2, h3, h4, h5⟩
  refine ⟨fun _ => true, fun _ => 1, fun _ => 0, fun _ => 12, 2, true, ⟨by omega, by omega, a1, a2, fun h hh => ?_, fun b hb => ?_⟩, a3, fun _ => Or.inr ⟨fun _ _ => false, ⟨fun b hb => rfl, fun h hh => Nat.le_of_ble_eq_true rfl, fun b h _ _ hx => by cases hx⟩, fun y hy => ⟨Nat.le_trans (Nat.le_of_eq rfl) (Nat.zero_le _), fun c => ?_⟩, fun b h hb hh _ z hz _ _ => ?_, a4, fun b hb => (h10 b hb).2.2.2.2.trans (congrArg nI hmk.symm)⟩⟩
  · have h := List.all_eq_true.mp gx_s9 h (List.mem_range.mpr hh)
    simp only [Bool.and_eq_true, decide_eq_true_eq] at h
    obtain ⟨⟨⟨h1, h2⟩, h3⟩, h4⟩ := h
    exact ⟨h1, h2, h3, h4, Nat.le_of_ble_eq_true rfl⟩
  · exact ⟨(h10 b hb).1, (h10 b hb).2.1, (h10 b hb).2.2.1, (h10 b hb).2.2.2.1, Nat.le_of_ble_eq_true rfl, Nat.le_of_ble_eq_true rfl⟩
  · have hz : ∀ (p : Nat → Nat) n, gh_sm (fun h => gf_col (fun _ _ => false) h * p h) n = 0 := by
      intro p n
      induction n with
      | zero => rfl
      | succ n ih =>
        rw [gh_sm, ih, show gf_col (fun _ _ => false) n = 0 from rfl, Nat.zero_mul]
    unfold gf_cost
    rw [hz]
    exact Nat.zero_le _
  · have h1 := hz.1 b hb
    unfold gf_row at h1
    have h2 := gh_sm_ge (fun h => (z b h).toNat) h 12 hh
    rw [h1] at h2
    have h2 : (z b h).toNat ≤ 0 := h2
    cases e : z b h with
    | false => rfl
    | true =>
      rw [e] at h2
      exact absurd h2 (by decide)
theorem gx_i5 : gb_R gh_S0 := by
  obtain ⟨a1, a2, b0, b1, b2, b3⟩ := gx_s11
  refine ⟨false, a1, a2, fun h => (by cases h), fun i hi => ?_⟩
  have : i = 0 ∨ i = 1 ∨ i = 2 ∨ i = 3 := by omega
  rcases this with rfl | rfl | rfl | rfl
  · rw [show 21 * 0 = 0 from rfl]; exact b0
  · rw [show 21 * 1 = 21 from rfl]; exact b1
  · rw [show 21 * 2 = 42 from rfl]; exact b2
  · rw [show 21 * 3 = 63 from rfl]; exact b3
theorem gx_i6 : gl_R gh_S0 := by
  obtain ⟨a1, a2, a3, a4, a5, a6, a7⟩ := gx_s12
  have h13 : ∀ k, k < 200 → gh_S0.1 44 k = nI 0 ∧ gh_S0.1 76 k = nI 0 := fun k hk => by
    have h := List.all_eq_true.mp gx_s13 k (List.mem_range.mpr hk)
    simp only [Bool.and_eq_true, decide_eq_true_eq] at h
    exact h
  refine ⟨⟨0, fun _ => 0, by omega, fun _ => Nat.le_of_ble_eq_true rfl, ⟨a1, fun k hk => (h13 k hk).1⟩, ⟨a2, fun k hk => (h13 k hk).2⟩⟩, ⟨false, a3, fun h => (by cases h), fun _ => ⟨a4, a5⟩⟩, ⟨0, fun _ => 0, fun _ => 0, fun _ => 0, by omega, by rw [show gh_pl gh_S0.2.2 = 46 from rfl]; exact a6, a7, fun k hk => ?_, fun i hi => absurd hi (Nat.not_lt_zero _)⟩⟩
  have h := List.all_eq_true.mp gx_s14 k (List.mem_range.mpr hk)
  simp only [Bool.and_eq_true, decide_eq_true_eq] at h
  rw [show gh_pl gh_S0.2.2 + 1 = 47 from rfl]
  exact ⟨h.1, h.2, Nat.le_of_ble_eq_true rfl⟩
theorem gx_P0 : gx_P 0 gh_S0 := ⟨gx_i1, gx_i2, gx_i3, gx_i4, gx_i5, gx_i6⟩
