/-! ===== what is kept ===== -/
/-- the places of C are as they were -/
def gx_on (C : Nat → Nat → Bool) (S S' : gh_St) : Prop := ∀ c k, C c k = true → S'.1 c k = S.1 c k ∧ S'.2.1 c k = S.2.1 c k
theorem gx_on_fr {C C' : Nat → Nat → Bool} {S S' : gh_St} (h : gh_fr C' S S') (hd : ∀ c k, C c k = true → C' c k = false) : gx_on C S S' := fun c k hc => ⟨h.1 c k (hd c k hc), h.2.1 c k (hd c k hc)⟩
section GxKp
variable {S S' : gh_St}
theorem gx_R1 (h : gq_R1 S) (ho : gx_on gq_C1 S S') : gq_R1 S' := by
  obtain ⟨n, kd, kg, rm, g, fa, ki, mo, gr, hB, hL, hH⟩ := h
  refine ⟨n, kd, kg, rm, g, fa, ki, mo, gr, ⟨fun b hb => ?_, hB.2⟩, ⟨hL.1, ?_, ?_, fun k hk => ?_⟩, ?_, ?_, ?_⟩
  · rw [(ho 2 b rfl).1, (ho 58 b rfl).1, (ho 3 b rfl).1, (ho 59 b rfl).1, (ho 4 b rfl).1, (ho 57 b rfl).1, (ho 5 b rfl).2, (ho 60 b rfl).2]
    exact hB.1 b hb
  · rw [(ho 6 4 rfl).1]
    exact hL.2.1
  · rw [(ho 56 4 rfl).1]
    exact hL.2.2.1
  · rw [(ho 7 k rfl).1, (ho 61 k rfl).1, (ho 8 k rfl).1, (ho 62 k rfl).1, (ho 9 k rfl).1, (ho 63 k rfl).1, (ho 10 k rfl).1, (ho 64 k rfl).2]
    exact hL.2.2.2 k hk
  · rw [(ho 56 16 rfl).2, (ho 0 10 rfl).2]
    exact hH.1
  · rw [(ho 56 17 rfl).2, (ho 0 11 rfl).2]
    exact hH.2.1
  · rw [(ho 56 18 rfl).2, (ho 0 12 rfl).2]
    exact hH.2.2
theorem gx_R2 {j j' : Nat} (h : gq_R2 j S) (hj : j ≤ j') (ho : gx_on gq_C2 S S') : gq_R2 j' S' := by
  obtain ⟨n, A, B, M, la, cl, u, h1, hu⟩ := h
  obtain ⟨a1, a2, a3, a4, a5, a6, a7, a8, a9⟩ := h1
  refine ⟨n, A, B, M, la, cl, u, ⟨a1, a2, ?_, ?_, ?_, ?_, ?_, ?_, fun k hk => ?_⟩, Nat.le_trans hu (Nat.mul_le_mul_left _ hj)⟩
  · rw [(ho 11 7 rfl).1]; exact a3
  · rw [(ho 56 9 rfl).1]; exact a4
  · rw [(ho 11 8 rfl).1]; exact a5
  · rw [(ho 56 14 rfl).1]; exact a6
  · rw [(ho 11 9 rfl).2]; exact a7
  · rw [(ho 56 15 rfl).1]; exact a8
  · rw [(ho 12 k rfl).1, (ho 65 k rfl).1, (ho 13 k rfl).1, (ho 66 k rfl).1, (ho 14 k rfl).1, (ho 67 k rfl).1, (ho 15 k rfl).1, (ho 68 k rfl).1]
    exact a9 k hk
theorem gx_Rr (h : gr_R S) (ho : gx_on gr_C S S') : gr_R S' := by
  obtain ⟨n, mi, ki, we, u, c, hv, kn, h1, h2, h3, h4, h5⟩ := h
  obtain ⟨a1, a2, a3, a4, a5, a6, a7, a8, a9, a10, a11⟩ := h1
  refine ⟨n, mi, ki, we, u, c, hv, kn, ⟨a1, a2, a3, a4, ?_, ?_, ?_, ?_, ?_, ?_, fun k hk => ?_⟩, fun k hk => ?_, h3, ?_, fun hk => ?_⟩
  · rw [(ho 18 7 rfl).1]; exact a5
  · rw [(ho 56 19 rfl).1]; exact a6
  · rw [(ho 18 8 rfl).1]; exact a7
  · rw [(ho 56 23 rfl).1]; exact a8
  · rw [(ho 18 9 rfl).1]; exact a9
  · rw [(ho 56 24 rfl).1]; exact a10
  · rw [(ho 19 k rfl).1, (ho 69 k rfl).1, (ho 20 k rfl).1, (ho 70 k rfl).1, (ho 21 k rfl).1, (ho 71 k rfl).1]
    exact a11 k hk
  · rw [(ho 22 k rfl).1]; exact h2 k hk
  · rw [(ho 18 11 rfl).1]; exact h4
  · obtain ⟨a, o, b1, b2, b3, b4⟩ := h5 hk
    refine ⟨a, o, b1, ?_, fun k hk => ?_, fun k hk => ?_⟩
    · rw [(ho 18 10 rfl).1]; exact b2
    · rw [(ho 24 k rfl).1]; exact b3 k hk
    · rw [(ho 25 k rfl).1]; exact b4 k hk
theorem gx_Rf (h : gf_R S) (ho : gx_on gf_C S S') : gf_R S' := by
  obtain ⟨dr, p, nd, li, pw, kn, h1, h2, h3⟩ := h
  obtain ⟨a1, a2, a3, a4, a5, a6⟩ := h1
  refine ⟨dr, p, nd, li, pw, kn, ⟨a1, a2, ?_, ?_, fun h hh => ?_, fun b hb => ?_⟩, ?_, fun hk => ?_⟩
  · rw [(ho 26 10 rfl).1]; exact a3
  · rw [(ho 56 29 rfl).1]; exact a4
  · rw [(ho 27 h rfl).1, (ho 72 h rfl).1, (ho 28 h rfl).1, (ho 73 h rfl).1]
    exact a5 h hh
  · rw [(ho 29 b rfl).1, (ho 74 b rfl).1, (ho 30 b rfl).1, (ho 75 b rfl).1]
    exact a6 b hb
  · rw [(ho 26 14 rfl).1]; exact h2
  · rcases h3 hk with ⟨b1, b2⟩ | ⟨x, b1, b2, b3, b4, b5⟩
    · exact Or.inl ⟨by rw [(ho 26 13 rfl).1]; exact b1, b2⟩
    · exact Or.inr ⟨x, b1, b2, b3, by rw [(ho 26 13 rfl).1]; exact b4, fun b hb => by rw [(ho 36 b rfl).1]; exact b5 b hb⟩
theorem gx_Rb (h : gb_R S) (ho : gx_on gb_C S S') : gb_R S' := by
  obtain ⟨tl, h1, h2, h3, h4⟩ := h
  refine ⟨tl, ?_, ?_, fun e b hb => ?_, fun i hi => ?_⟩
  · rw [(ho 37 7 rfl).1]; exact h1
  · rw [(ho 56 62 rfl).1]; exact h2
  · rw [(ho 42 b rfl).1, (ho 92 b rfl).1]; exact h3 e b hb
  · rw [(ho 40 (21 * i) rfl).2]; exact h4 i hi
theorem gx_Rl (h : gl_R S) (ho : gx_on gl_C S S') (h2 : S'.2.2 = S.2.2) : gl_R S' := by
  obtain ⟨⟨n, bs, hn, hb, hW, hV⟩, ⟨u, f1, f2, f3⟩, ⟨nd, da, dl, pc, p1, p2, p3, p4, p5⟩⟩ := h
  have e : ∀ b j k, j ≤ 4 → S'.1 (gh_pl b + j) k = S.1 (gh_pl b + j) k := fun b j k hj => (ho _ _ (by
    have hp := gl_pl b
    unfold gl_C
    simp only [Bool.or_eq_true, Bool.and_eq_true, Nat.beq_eq, Nat.ble_eq]
    omega)).1
  have e0 : ∀ b, S'.1 (gh_pl b) 4 = S.1 (gh_pl b) 4 := fun b => e b 0 4 (by omega)
  refine ⟨⟨n, bs, hn, hb, ⟨?_, fun k hk => ?_⟩, ⟨?_, fun k hk => ?_⟩⟩, ⟨u, ?_, fun hu => ?_, fun hu => ?_⟩, ⟨nd, da, dl, pc, p1, ?_, ?_, fun k hk => ?_, fun i hi => ?_⟩⟩
  · rw [(ho 43 1 rfl).1]; exact hW.1
  · rw [(ho 44 k rfl).1]; exact hW.2 k hk
  · rw [(ho 56 31 rfl).1]; exact hV.1
  · rw [(ho 76 k rfl).1]; exact hV.2 k hk
  · rw [(ho 45 0 rfl).1]; exact f1
  · rw [(ho 45 1 rfl).1, (ho 45 2 rfl).1, (ho 56 38 rfl).1, (ho 56 39 rfl).1]; exact f2 hu
  · rw [(ho 56 38 rfl).1, (ho 56 39 rfl).1]; exact f3 hu
  · rw [h2, e0]; exact p2
  · rw [(ho 56 45 rfl).1]; exact p3
  · rw [h2, e S.2.2 1 k (by omega), (ho 80 k rfl).1]; exact p4 k hk
  · rw [h2, e S.2.2 3 i (by omega), e S.2.2 4 i (by omega), (ho 81 i rfl).1, (ho 82 i rfl).1]; exact p5 i hi
end GxKp
/-- the whole invariant, after j calls -/
def gx_P (j : Nat) (S : gh_St) : Prop := gq_R1 S ∧ gq_R2 j S ∧ gr_R S ∧ gf_R S ∧ gb_R S ∧ gl_R S
section GxDis
variable (c k : Nat)
theorem gx_d12 (h : gq_C1 c k = true) : gq_C2 c k = false := gf_bf (fun w => by
  unfold gq_C1 at h; unfold gq_C2 at w
  simp only [Bool.or_eq_true, Bool.and_eq_true, Nat.beq_eq, Nat.ble_eq] at h w; omega)
theorem gx_d13 (h : gq_C1 c k = true) : gr_C c k = false := gf_bf (fun w => by
  unfold gq_C1 at h; unfold gr_C at w
  simp only [Bool.or_eq_true, Bool.and_eq_true, Nat.beq_eq, Nat.ble_eq] at h w; omega)
theorem gx_d14 (h : gq_C1 c k = true) : gf_C c k = false := gf_bf (fun w => by
  unfold gq_C1 at h; unfold gf_C at w
  simp only [Bool.or_eq_true, Bool.and_eq_true, Nat.beq_eq, Nat.ble_eq] at h w; omega)
theorem gx_d15 (h : gq_C1 c k = true) : gb_C c k = false := gf_bf (fun w => by
  unfold gq_C1 at h; unfold gb_C at w
  simp only [Bool.or_eq_true, Bool.and_eq_true, Nat.beq_eq, Nat.ble_eq] at h w; omega)
theorem gx_d16 (h : gq_C1 c k = true) : gl_C c k = false := gf_bf (fun w => by
  unfold gq_C1 at h; unfold gl_C at w
  simp only [Bool.or_eq_true, Bool.and_eq_true, Nat.beq_eq, Nat.ble_eq] at h w; omega)
theorem gx_d23 (h : gq_C2 c k = true) : gr_C c k = false := gf_bf (fun w => by
  unfold gq_C2 at h; unfold gr_C at w
  simp only [Bool.or_eq_true, Bool.and_eq_true, Nat.beq_eq, Nat.ble_eq] at h w; omega)
theorem gx_d24 (h : gq_C2 c k = true) : gf_C c k = false := gf_bf (fun w => by
  unfold gq_C2 at h; unfold gf_C at w
  simp only [Bool.or_eq_true, Bool.and_eq_true, Nat.beq_eq, Nat.ble_eq] at h w; omega)
theorem gx_d25 (h : gq_C2 c k = true) : gb_C c k = false := gf_bf (fun w => by
  unfold gq_C2 at h; unfold gb_C at w
  simp only [Bool.or_eq_true, Bool.and_eq_true, Nat.beq_eq, Nat.ble_eq] at h w; omega)
theorem gx_d26 (h : gq_C2 c k = true) : gl_C c k = false := gf_bf (fun w => by
  unfold gq_C2 at h; unfold gl_C at w
  simp only [Bool.or_eq_true, Bool.and_eq_true, Nat.beq_eq, Nat.ble_eq] at h w; omega)
theorem gx_d34 (h : gr_C c k = true) : gf_C c k = false := gf_bf (fun w => by
  unfold gr_C at h; unfold gf_C at w
  simp only [Bool.or_eq_true, Bool.and_eq_true, Nat.beq_eq, Nat.ble_eq] at h w; omega)
theorem gx_d35 (h : gr_C c k = true) : gb_C c k = false := gf_bf (fun w => by
  unfold gr_C at h; unfold gb_C at w
  simp only [Bool.or_eq_true, Bool.and_eq_true, Nat.beq_eq, Nat.ble_eq] at h w; omega)
theorem gx_d36 (h : gr_C c k = true) : gl_C c k = false := gf_bf (fun w => by
  unfold gr_C at h; unfold gl_C at w
  simp only [Bool.or_eq_true, Bool.and_eq_true, Nat.beq_eq, Nat.ble_eq] at h w; omega)
theorem gx_d45 (h : gf_C c k = true) : gb_C c k = false := gf_bf (fun w => by
  unfold gf_C at h; unfold gb_C at w
  simp only [Bool.or_eq_true, Bool.and_eq_true, Nat.beq_eq, Nat.ble_eq] at h w; omega)
theorem gx_d46 (h : gf_C c k = true) : gl_C c k = false := gf_bf (fun w => by
  unfold gf_C at h; unfold gl_C at w
  simp only [Bool.or_eq_true, Bool.and_eq_true, Nat.beq_eq, Nat.ble_eq] at h w; omega)
theorem gx_d56 (h : gb_C c k = true) : gl_C c k = false := gf_bf (fun w => by
  unfold gb_C at h; unfold gl_C at w
  simp only [Bool.or_eq_true, Bool.and_eq_true, Nat.beq_eq, Nat.ble_eq] at h w; omega)
end GxDis
theorem gx_sym {C C' : Nat → Nat → Bool} (h : ∀ c k, C c k = true → C' c k = false) : ∀ c k, C' c k = true → C c k = false := fun c k h' => gf_bf (fun w => by
  rw [h c k w] at h'
  cases h')
section GxOps
variable {S S' : gh_St} {j : Nat}
theorem gx_k1 (h : gx_P j S) (hf : gh_fr gq_C1 S S') (hR : gq_R1 S') : gx_P (j + 1) S' :=
  ⟨hR, gx_R2 h.2.1 (by omega) (gx_on_fr hf (gx_sym gx_d12)), gx_Rr h.2.2.1 (gx_on_fr hf (gx_sym gx_d13)), gx_Rf h.2.2.2.1 (gx_on_fr hf (gx_sym gx_d14)), gx_Rb h.2.2.2.2.1 (gx_on_fr hf (gx_sym gx_d15)), gx_Rl h.2.2.2.2.2 (gx_on_fr hf (gx_sym gx_d16)) hf.2.2⟩
theorem gx_up {j' : Nat} (h : gq_R2 j S) (hj : j ≤ j') : gq_R2 j' S := gx_R2 h hj (fun _ _ _ => ⟨rfl, rfl⟩)
theorem gx_k2 (h : gx_P j S) (hf : gh_fr gq_C2 S S') (hR : gq_R2 j S') : gx_P (j + 1) S' :=
  ⟨gx_R1 h.1 (gx_on_fr hf gx_d12), gx_up hR (by omega), gx_Rr h.2.2.1 (gx_on_fr hf (gx_sym gx_d23)), gx_Rf h.2.2.2.1 (gx_on_fr hf (gx_sym gx_d24)), gx_Rb h.2.2.2.2.1 (gx_on_fr hf (gx_sym gx_d25)), gx_Rl h.2.2.2.2.2 (gx_on_fr hf (gx_sym gx_d26)) hf.2.2⟩
theorem gx_o12 {C : Nat → Nat → Bool} (h1 : ∀ c k, C c k = true → gq_C1 c k = false) (h2 : ∀ c k, C c k = true → gq_C2 c k = false) : ∀ c k, C c k = true → gq_C12 c k = false := fun c k h => by
  unfold gq_C12
  rw [h1 c k h, h2 c k h]
  rfl
theorem gx_k12 (h : gx_P j S) (hf : gh_fr gq_C12 S S') (hR : gq_R12 (j + 1) S') : gx_P (j + 1) S' :=
  ⟨hR.1, hR.2, gx_Rr h.2.2.1 (gx_on_fr hf (gx_o12 (gx_sym gx_d13) (gx_sym gx_d23))), gx_Rf h.2.2.2.1 (gx_on_fr hf (gx_o12 (gx_sym gx_d14) (gx_sym gx_d24))), gx_Rb h.2.2.2.2.1 (gx_on_fr hf (gx_o12 (gx_sym gx_d15) (gx_sym gx_d25))), gx_Rl h.2.2.2.2.2 (gx_on_fr hf (gx_o12 (gx_sym gx_d16) (gx_sym gx_d26))) hf.2.2⟩
theorem gx_k3 (h : gx_P j S) (hf : gh_fr gr_C S S') (hR : gr_R S') : gx_P (j + 1) S' :=
  ⟨gx_R1 h.1 (gx_on_fr hf gx_d13), gx_R2 h.2.1 (by omega) (gx_on_fr hf gx_d23), hR, gx_Rf h.2.2.2.1 (gx_on_fr hf (gx_sym gx_d34)), gx_Rb h.2.2.2.2.1 (gx_on_fr hf (gx_sym gx_d35)), gx_Rl h.2.2.2.2.2 (gx_on_fr hf (gx_sym gx_d36)) hf.2.2⟩
theorem gx_k4 (h : gx_P j S) (hf : gh_fr gf_C S S') (hR : gf_R S') : gx_P (j + 1) S' :=
  ⟨gx_R1 h.1 (gx_on_fr hf gx_d14), gx_R2 h.2.1 (by omega) (gx_on_fr hf gx_d24), gx_Rr h.2.2.1 (gx_on_fr hf gx_d34), hR, gx_Rb h.2.2.2.2.1 (gx_on_fr hf (gx_sym gx_d45)), gx_Rl h.2.2.2.2.2 (gx_on_fr hf (gx_sym gx_d46)) hf.2.2⟩
theorem gx_k5 (h : gx_P j S) (hf : gh_fr gb_C S S') (hR : gb_R S') : gx_P (j + 1) S' :=
  ⟨gx_R1 h.1 (gx_on_fr hf gx_d15), gx_R2 h.2.1 (by omega) (gx_on_fr hf gx_d25), gx_Rr h.2.2.1 (gx_on_fr hf gx_d35), gx_Rf h.2.2.2.1 (gx_on_fr hf gx_d45), hR, gx_Rl h.2.2.2.2.2 (gx_on_fr hf (gx_sym gx_d56)) hf.2.2⟩
theorem gx_o6 {C C' : Nat → Nat → Bool} {b : Bool} (hf : gh_fr C' S (S'.1, S'.2.1, b)) (hd : ∀ c k, C c k = true → C' c k = false) : gx_on C S S' := fun c k hc => ⟨hf.1 c k (hd c k hc), hf.2.1 c k (hd c k hc)⟩
theorem gx_k6 (h : gx_P j S) {b : Bool} (hf : gh_fr gl_C S (S'.1, S'.2.1, b)) (hR : gl_R S') : gx_P (j + 1) S' :=
  ⟨gx_R1 h.1 (gx_o6 hf gx_d16), gx_R2 h.2.1 (by omega) (gx_o6 hf gx_d26), gx_Rr h.2.2.1 (gx_o6 hf gx_d36), gx_Rf h.2.2.2.1 (gx_o6 hf gx_d46), gx_Rb h.2.2.2.2.1 (gx_o6 hf gx_d56), hR⟩
theorem gx_k0 (h : gx_P j S) : gx_P (j + 1) S := ⟨h.1, gx_up h.2.1 (by omega), h.2.2⟩
theorem gx_ro {α : Type} {f g : gh_St → Option (α × gh_St)} (h : gx_P j S) (hr : gl_ro f g S) : gh_pr f g (gx_P (j + 1)) S := by
  obtain ⟨v, h1, h2⟩ := hr
  exact ⟨v, S, S, h1, h2, gx_k0 h⟩
theorem gx_p {α : Type} {f g : gh_St → Option (α × gh_St)} {C : Nat → Nat → Bool} {R : gh_St → Prop} (hp : gq_P f g C R S) (hk : ∀ S', gh_fr C S S' → R S' → gx_P (j + 1) S') : gh_pr f g (gx_P (j + 1)) S := by
  obtain ⟨v, S1, S2, h1, h2, h3, h4⟩ := hp
  exact ⟨v, S1, S2, h1, h2, hk S2 h4 h3⟩
end GxOps
