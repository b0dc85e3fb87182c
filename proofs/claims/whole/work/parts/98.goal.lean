/-! ===== every pair of calls ===== -/
theorem gx_op (N : Nat) (hN : 3000000000 ≤ N) (j : Nat) (S : gh_St) (k : Nat) (a b c d e : Int32) (hj : j < 512) (hk : k < 32) (h : gx_P j S) : gh_op N a b c d e (gx_P (j + 1)) S k := by
  have h1 := h.1
  have h2 := h.2.1
  have h3 := h.2.2.1
  have h4 := h.2.2.2.1
  have h5 := h.2.2.2.2.1
  have h6 := h.2.2.2.2.2
  have k1 : ∀ S', gh_fr gq_C1 S S' → gq_R1 S' → gx_P (j + 1) S' := fun _ => gx_k1 h
  have k2 : ∀ S', gh_fr gq_C2 S S' → gq_R2 j S' → gx_P (j + 1) S' := fun _ => gx_k2 h
  have k12 : ∀ S', gh_fr gq_C12 S S' → gq_R12 (j + 1) S' → gx_P (j + 1) S' := fun _ => gx_k12 h
  have k3 : ∀ S', gh_fr gr_C S S' → gr_R S' → gx_P (j + 1) S' := fun _ => gx_k3 h
  have k4 : ∀ S', gh_fr gf_C S S' → gf_R S' → gx_P (j + 1) S' := fun _ => gx_k4 h
  have k5 : ∀ S', gh_fr gb_C S S' → gb_R S' → gx_P (j + 1) S' := fun _ => gx_k5 h
  have k6 : ∀ S', gh_fr gl_C S S' → gl_R S' → gx_P (j + 1) S' := fun S' hf hR => gx_k6 h (b := S'.2.2) hf hR
  match k, hk with
  | 0, _ => exact gx_p (gq_holds N a b h1) k1
  | 1, _ => exact gx_p (gq_load N a b c d e h1) k1
  | 2, _ => exact gx_p (gq_leg N a b c h2) k2
  | 3, _ => exact gx_p (gq_cleaning N a h2) k2
  | 4, _ => exact gx_p (gq_way N (by omega) a b c h2) k2
  | 5, _ => exact gx_p (gq_wayLeg N (by omega) a b c d h2) k2
  | 6, _ => exact gx_p (gq_move N (by omega) hj a b c ⟨h1, h2⟩) k12
  | 7, _ => exact gx_p (gq_dry N (by omega) hj a b c d ⟨h1, h2⟩) k12
  | 8, _ => exact gx_p (gq_ship N a b h1) k1
  | 9, _ => exact gx_p (gq_binOf N a b h1) k1
  | 10, _ => exact gx_p (gq_dryIn N a h1) k1
  | 11, _ => exact gx_p (gr_truck N (by omega) a b c h3) k3
  | 12, _ => exact gx_p (gr_pit N a b h3) k3
  | 13, _ => exact gx_p (gr_rush N (by omega) h3) k3
  | 14, _ => exact gx_p (gr_served N (by omega) a b h3) k3
  | 15, _ => exact gx_p (gr_gone N h3) k3
  | 16, _ =>
    have hb : gh_b01 b = gq_B (!gh_cmp .eq b 0) := by
      unfold gh_b01
      cases gh_cmp .eq b 0 <;> rfl
    show gh_pr (fun S => sX9_hour N a (gh_b01 b) c S) (fun S => sX10_hour N a (gh_b01 b) c S) (gx_P (j + 1)) S
    rw [hb]
    exact gx_p (gf_hour N a c _ h4) k4
  | 17, _ => exact gx_p (gf_needs N a b c h4) k4
  | 18, _ => exact gx_p (gf_fans N hN h4) k4
  | 19, _ => exact gx_p (gf_fansOf N hN a h4) k4
  | 20, _ => exact gx_p (gb_blend N (by omega) a b c d h1 h5) k5
  | 21, _ => exact gx_p (gb_blended N a h5) k5
  | 22, _ => exact gx_p (gl_feed N (by omega) a b c d e h6) k6
  | 23, _ => exact gx_p (gl_end N a h6) k6
  | 24, _ =>
    obtain ⟨v, S1, S2, p1, p2, p3, p4⟩ := gl_list N (by omega) h6
    exact ⟨v, S1, S2, p1, p2, gx_k6 h p4 p3⟩
  | 25, _ => exact gx_p (gl_fault N a h6) k6
  | 26, _ => exact gx_ro h (gl_worth N (by omega) a h1 h6.2.2)
  | 27, _ => exact gx_ro h (gl_account N (by omega) a b h1 h6.2.2)
  | 28, _ => exact gx_ro h (gx_about N (by omega) (by omega) a h1 h2 h3 h4 h6)
  | 29, _ => exact gx_k0 h
  | 30, _ => exact gx_k0 h
  | 31, _ => exact gx_k0 h
  | k + 32, hk => exact absurd hk (by omega)
theorem gh_all : ∀ (L : Nat) (xs : Nat → Int32), L ≤ 3072 → gh_goal L xs := gh_all_of 3000000000 gx_P gx_P0 (gx_op 3000000000 (by omega))
