/-! ===== about ===== -/
section GxAb
variable {S : gh_St} (N : Nat)
theorem gx_e8 {g : Nat → Nat} {a : Int32} {l4 : Int64} (hg : ∀ b, b < 8 → S.2.1 60 b = lN (g b)) : ∀ (j i fu : Nat) (x : Int64), i + j = 8 → j < fu → sX10_about_8 N fu a x l4 (nI i) S = sX10_about_34 N N a (gl_ac (fun _ => true) (fun b => lN (g b)) j i x) l4 (nI 0) S := by
  intro j
  induction j with
  | zero =>
    intro i fu x hi hfu
    obtain ⟨fu, rfl⟩ : ∃ q, fu = q + 1 := ⟨fu - 1, by omega⟩
    rw [sX10_about_8, show gh_cmp .ge (nI i) 8 = decide (8 ≤ i) from gh_n_ge (b := 8) (by omega) (by omega), decide_eq_true (by omega), cond_true]
    rfl
  | succ j ih =>
    intro i fu x hi hfu
    obtain ⟨fu, rfl⟩ : ∃ q, fu = q + 1 := ⟨fu - 1, by omega⟩
    rw [sX10_about_8, show gh_cmp .ge (nI i) 8 = decide (8 ≤ i) from gh_n_ge (b := 8) (by omega) (by omega), decide_eq_false (by omega), cond_false, gh_rj_n (by omega) (by decide), gq_bs, nI_1, hg i (by omega)]
    exact ih (i + 1) fu _ (by omega) (by omega)
theorem gx_e34 {n : Nat} {gr : Nat → Nat} {a : Int32} {l2 : Int64} (hn : n ≤ 100) (h4 : S.1 56 4 = nI n) (hg : ∀ b, b < 100 → S.2.1 64 b = lN (gr b)) : ∀ (j i fu : Nat) (x : Int64), i + j = n → j < fu → sX10_about_34 N fu a l2 x (nI i) S = sX10_about_34 N (0 + 1) a l2 (gl_ac (fun _ => true) (fun b => lN (gr b)) j i x) (nI n) S := by
  intro j
  induction j with
  | zero =>
    intro i fu x hi hfu
    obtain ⟨fu, rfl⟩ : ∃ q, fu = q + 1 := ⟨fu - 1, by omega⟩
    have hi : i = n := by omega
    subst hi
    rw [sX10_about_34, sX10_about_34, h4, gh_n_ge (by omega) (by omega), decide_eq_true (Nat.le_refl _), cond_true, cond_true]
    rfl
  | succ j ih =>
    intro i fu x hi hfu
    obtain ⟨fu, rfl⟩ : ∃ q, fu = q + 1 := ⟨fu - 1, by omega⟩
    rw [sX10_about_34, h4, gh_n_ge (by omega) (by omega), decide_eq_false (by omega), cond_false, gh_rj_n (by omega) (by decide), gq_bs, nI_1, hg i (by omega)]
    exact ih (i + 1) fu _ (by omega) (by omega)
theorem gx_g0 {g : Nat → Nat} (hg : ∀ b, b < 8 → S.2.1 5 b = lN (g b)) : ∀ (j i fu : Nat) (x : Int64), i + j = 8 → j < fu → sX0_allGrams_4 N fu x (nI i) S = some (gl_ac (fun _ => true) (fun b => lN (g b)) j i x, S) := by
  intro j
  induction j with
  | zero =>
    intro i fu x hi hfu
    obtain ⟨fu, rfl⟩ : ∃ q, fu = q + 1 := ⟨fu - 1, by omega⟩
    rw [sX0_allGrams_4, show gh_cmp .ge (nI i) 8 = decide (8 ≤ i) from gh_n_ge (b := 8) (by omega) (by omega), decide_eq_true (by omega), cond_true]
    rfl
  | succ j ih =>
    intro i fu x hi hfu
    obtain ⟨fu, rfl⟩ : ∃ q, fu = q + 1 := ⟨fu - 1, by omega⟩
    rw [sX0_allGrams_4, show gh_cmp .ge (nI i) 8 = decide (8 ≤ i) from gh_n_ge (b := 8) (by omega) (by omega), decide_eq_false (by omega), cond_false, gh_rj_n (by omega) (by decide), gq_bs, nI_1, hg i (by omega)]
    exact ih (i + 1) fu _ (by omega) (by omega)
theorem gx_g3 {n : Nat} {gr : Nat → Nat} (hn : n ≤ 100) (h4 : S.1 6 4 = nI n) (hg : ∀ b, b < 100 → S.1 10 b = nI (gr b) ∧ gr b ≤ 40000000) : ∀ (j i fu : Nat) (x : Int64), i + j = n → j < fu → sX3_allGrams_4 N fu x (nI i) S = some (gl_ac (fun _ => true) (fun b => lN (gr b)) j i x, S) := by
  intro j
  induction j with
  | zero =>
    intro i fu x hi hfu
    obtain ⟨fu, rfl⟩ : ∃ q, fu = q + 1 := ⟨fu - 1, by omega⟩
    rw [sX3_allGrams_4, h4, gh_n_ge (by omega) (by omega), decide_eq_true (by omega), cond_true]
    rfl
  | succ j ih =>
    intro i fu x hi hfu
    obtain ⟨fu, rfl⟩ : ∃ q, fu = q + 1 := ⟨fu - 1, by omega⟩
    have hgi := hg i (by omega)
    rw [sX3_allGrams_4, h4, gh_n_ge (by omega) (by omega), decide_eq_false (by omega), cond_false, gh_ra_n (by omega) (by decide), gq_bs, nI_1, hgi.1, nI_l (by omega)]
    exact ih (i + 1) fu _ (by omega) (by omega)
theorem gx_about {j : Nat} (hN : 200 ≤ N) (hj : j ≤ 600) (a : Int32) (h1 : gq_R1 S) (h2 : gq_R2 j S) (hr : gr_R S) (hf : gf_R S) (hl : gl_R S) : gl_ro (sX9_about N a) (sX10_about N a) S := by
  obtain ⟨n, kd, kg, rm, g, fa, ki, mo, gr, hB, hL, hH⟩ := h1
  have hn := hL.1
  obtain ⟨n2, A, B, M, la, cl, u, hN2, hu⟩ := h2
  obtain ⟨r1, mi, rk, we, ru, rc, hv, kn, hrs, -⟩ := hr
  obtain ⟨dr, p, nd, li, pw, fk, hfs, -⟩ := hf
  obtain ⟨⟨tn, bs, htn, -, hW, hV⟩, -, -⟩ := hl
  have x0 : sX0_allGrams N S = some (gl_ac (fun _ => true) (fun b => lN (g b)) 8 0 0, S) := gx_g0 N (fun b hb => (hB.1 b hb).2.2.2.2.2.2.1) 8 0 N 0 (by omega) (by omega)
  have x3 : sX3_allGrams N S = some (gl_ac (fun _ => true) (fun b => lN (gr b)) n 0 0, S) := gx_g3 N hn hL.2.1 (fun b hb => ⟨(hL.2.2.2 b hb).2.2.2.2.2.2.1, (hL.2.2.2 b hb).2.2.2.2.2.2.2.2.2.2.2⟩) n 0 N 0 (by omega) (by omega)
  have y : sX10_about N a S = sX10_about_34 N (0 + 1) a (gl_ac (fun _ => true) (fun b => lN (g b)) 8 0 0) (gl_ac (fun _ => true) (fun b => lN (gr b)) n 0 0) (nI n) S :=
    (gx_e8 (a := a) (l4 := 0) N (fun b hb => (hB.1 b hb).2.2.2.2.2.2.2.1) 8 0 N 0 (by omega) (by omega)).trans (gx_e34 (a := a) N hn hL.2.2.1 (fun b hb => (hL.2.2.2 b hb).2.2.2.2.2.2.2.1) n 0 N 0 (by omega) (by omega))
  unfold gl_ro
  rw [y, sX10_about_34, hL.2.2.1, gh_n_ge (by omega) (by omega), decide_eq_true (Nat.le_refl _), cond_true]
  unfold sX9_about
  rw [x0, x3, gq_bs, gq_bs, hL.2.1, hN2.2.2.1, hN2.2.2.2.1, hN2.2.2.2.2.1, hN2.2.2.2.2.2.1, hN2.2.2.2.2.2.2.1, hN2.2.2.2.2.2.2.2.1, hrs.2.2.2.2.1, hrs.2.2.2.2.2.1, hrs.2.2.2.2.2.2.1, hrs.2.2.2.2.2.2.2.1, hrs.2.2.2.2.2.2.2.2.1, hrs.2.2.2.2.2.2.2.2.2.1, hfs.2.2.1, hfs.2.2.2.1, hW.1, hV.1, hH.1, hH.2.1, hH.2.2, nI_l (n := u) (by omega)]
  generalize gl_ac (fun _ => true) (fun b => lN (g b)) 8 0 0 = z1
  generalize gl_ac (fun _ => true) (fun b => lN (gr b)) n 0 0 = z2
  cases gh_cmp .eq a 0
  case true => exact ⟨_, rfl, rfl⟩
  cases gh_cmp .eq a 1
  case true => exact ⟨_, rfl, rfl⟩
  cases gh_cmp .eq a 2
  case true => exact ⟨_, rfl, rfl⟩
  cases gh_cmp .eq a 3
  case true => exact ⟨_, rfl, rfl⟩
  cases gh_cmp .eq a 4
  case true => exact ⟨_, rfl, rfl⟩
  cases gh_cmp .eq a 5
  case true => exact ⟨_, rfl, rfl⟩
  cases gh_cmp .eq a 6
  case true => exact ⟨_, rfl, rfl⟩
  cases gh_cmp .eq a 7
  case true => exact ⟨_, rfl, rfl⟩
  cases gh_cmp .eq a 8
  case true => exact ⟨_, rfl, rfl⟩
  cases gh_cmp .eq a 9
  case true => exact ⟨_, rfl, rfl⟩
  cases gh_cmp .eq a 10
  case true => exact ⟨_, rfl, rfl⟩
  cases gh_cmp .eq a 11
  case true => exact ⟨_, rfl, rfl⟩
  cases gh_cmp .eq a 12
  case true => exact ⟨_, rfl, rfl⟩
  cases gh_cmp .eq a 13
  case true => exact ⟨_, rfl, rfl⟩
  exact ⟨_, rfl, rfl⟩
end GxAb
