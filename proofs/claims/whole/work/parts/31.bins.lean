/-! ===== BINS AND LOADS ===== -/
def gq_RB (S : gh_St) (n : Nat) (kd kg rm g : Nat → Nat) : Prop :=
  (∀ b, b < 8 → S.1 2 b = nI (kd b) ∧ S.1 58 b = nI (kd b) ∧ S.1 3 b = nI (kg b) ∧ S.1 59 b = nI (kg b) ∧ S.1 4 b = nI (rm b) ∧ S.1 57 b = nI (rm b) ∧ S.2.1 5 b = lN (g b) ∧ S.2.1 60 b = lN (g b) ∧ kd b ≤ 3 ∧ kg b ≤ rm b ∧ rm b ≤ 500000) ∧ gh_sm g 8 ≤ 40000000 * n
def gq_RL (S : gh_St) (n : Nat) (fa ki mo gr : Nat → Nat) : Prop :=
  n ≤ 100 ∧ S.1 6 4 = nI n ∧ S.1 56 4 = nI n ∧ ∀ k, k < 100 → S.1 7 k = nI (fa k) ∧ S.1 61 k = nI (fa k) ∧ S.1 8 k = nI (ki k) ∧ S.1 62 k = nI (ki k) ∧ S.1 9 k = nI (mo k) ∧ S.1 63 k = nI (mo k) ∧ S.1 10 k = nI (gr k) ∧ S.2.1 64 k = lN (gr k) ∧ fa k ≤ 9 ∧ ki k ≤ 3 ∧ mo k ≤ 400 ∧ gr k ≤ 40000000
def gq_RH (S : gh_St) : Prop := S.2.1 56 16 = S.2.1 0 10 ∧ S.2.1 56 17 = S.2.1 0 11 ∧ S.2.1 56 18 = S.2.1 0 12
/-- what bins and loads are, on both sides -/
def gq_R1 (S : gh_St) : Prop := ∃ n kd kg rm g fa ki mo gr, gq_RB S n kd kg rm g ∧ gq_RL S n fa ki mo gr ∧ gq_RH S
/-- the places of bins, loads and house -/
def gq_C1 (c k : Nat) : Bool := Nat.ble c 10 || (Nat.ble 57 c && Nat.ble c 64) || (Nat.beq c 56 && (Nat.beq k 4 || Nat.beq k 16 || Nat.beq k 17 || Nat.beq k 18))
/-- a pair of calls -/
def gq_P {α : Type} (f g : gh_St → Option (α × gh_St)) (C : Nat → Nat → Bool) (R : gh_St → Prop) (S : gh_St) : Prop := ∃ v S1 S2, f S = some (v, S1) ∧ g S1 = some (v, S2) ∧ R S2 ∧ gh_fr C S S2
theorem gq_P0 {α : Type} {f g : gh_St → Option (α × gh_St)} {C : Nat → Nat → Bool} {R : gh_St → Prop} {S : gh_St} (v : α) (h1 : f S = some (v, S)) (h2 : g S = some (v, S)) (hR : R S) : gq_P f g C R S := ⟨v, S, S, h1, h2, hR, gh_fr_refl C S⟩
theorem gq_bs {α β : Type} (x : α) (f : α → Option β) : (some x).bind f = f x := rfl
theorem gq_holds {S : gh_St} (N : Nat) (a b : Int32) (hR : gq_R1 S) : gq_P (sX9_holds N a b) (sX10_holds N a b) gq_C1 gq_R1 S := by
  cases h1 : gh_rg a.toInt 0 7 with
  | false =>
    refine gq_P0 0 ?_ ?_ hR
    · unfold sX9_holds
      rw [gh_isBin9, gq_bs, h1]
      rfl
    · unfold sX10_holds
      rw [gh_isBin10, gq_bs, h1]
      rfl
  | true =>
    cases h2 : gh_rg b.toInt 1 500000 with
    | false =>
      refine gq_P0 0 ?_ ?_ hR
      · unfold sX9_holds
        rw [gh_isBin9, gq_bs, h1, gq_B_eq, gh_within, gq_bs]
        show (bif gh_cmp .eq (gq_B (gh_rg b.toInt 1 500000)) 0 then _ else _) = _
        rw [h2]
        rfl
      · unfold sX10_holds
        rw [gh_isBin10, gq_bs, h1, gq_B_eq, gh_inR, gq_bs, Int32.toInt_toInt64]
        show (bif gh_cmp .eq (gq_B (gh_rg b.toInt 1 500000)) 0 then _ else _) = _
        rw [h2]
        rfl
    | true =>
      obtain ⟨n, kd, kg, rm, g, fa, ki, mo, gr, hB, hL, hH⟩ := hR
      obtain ⟨j, -, rfl, -, hj, -⟩ := gh_rgN h1 (by decide)
      obtain ⟨m, -, rfl, hm1, hm2, -⟩ := gh_rgN h2 (by decide)
      have hj8 : j < 8 := by omega
      obtain ⟨e1, e2, e3, e4, e5, e6, e7, e8, q1, q2, q3⟩ := hB.1 j hj8
      have f1 : sX9_holds N (nI j) (nI m) S = (bif decide (kg j ≤ m) then some (1, gh_fI S 4 j (nI m)) else some (0, S)) := by
        unfold sX9_holds
        rw [gh_isBin9, gq_bs, h1, gq_B_eq, gh_within, gq_bs]
        show (bif gh_cmp .eq (gq_B (gh_rg (nI m).toInt 1 500000)) 0 then _ else _) = _
        rw [h2, gq_B_eq, gh_ra_n hj8 (by decide), gq_bs, gh_wa_n hj8 (by decide), gq_bs]
        show (bif gh_cmp .le (S.1 3 j) (nI m) then _ else _) = _
        rw [e3, gh_n_le (by omega) (by omega)]
      have f2 : ∀ S1 : gh_St, S1.1 59 j = nI (kg j) → sX10_holds N (nI j) (nI m) S1 = (bif decide (kg j ≤ m) then some (1, gh_fI S1 57 j (nI m)) else some (0, S1)) := by
        intro S1 h59
        unfold sX10_holds
        rw [gh_isBin10, gq_bs, h1, gq_B_eq, gh_inR, gq_bs, Int32.toInt_toInt64]
        show (bif gh_cmp .eq (gq_B (gh_rg (nI m).toInt 1 500000)) 0 then _ else _) = _
        rw [h2, gq_B_eq, gh_ra_n hj8 (by decide), gq_bs, gh_wa_n hj8 (by decide), gq_bs]
        show (bif gh_cmp .ge (nI m) (S1.1 59 j) then _ else _) = _
        rw [h59, gh_n_ge (by omega) (by omega)]
      by_cases hk : kg j ≤ m
      · rw [decide_eq_true hk] at f1 f2
        refine ⟨1, _, _, f1, f2 _ (by rw [gh_fI_1]; simpa using e4), ⟨n, kd, kg, gh_nu rm j m, g, fa, ki, mo, gr, ⟨fun b hb => ?_, hB.2⟩, ?_, hH⟩, ?_⟩
        · obtain ⟨e1, e2, e3, e4, e5, e6, e7, e8, q1, q2, q3⟩ := hB.1 b hb
          simp only [gh_fI_1, gh_fI_2]
          by_cases hbj : b = j
          · subst hbj
            simp [gh_nu_s, e1, e2, e3, e4, e7, e8, q1]
            omega
          · simp [gh_nu_n _ _ hbj, e1, e2, e3, e4, e5, e6, e7, e8, q1, q2, q3, hbj]
        · simpa [gq_RL, gh_fI_1, gh_fI_2] using hL
        · exact gh_fr_fI (gh_fr_fI (gh_fr_refl _ _) rfl) rfl
      · rw [decide_eq_false hk] at f1 f2
        exact ⟨0, _, _, f1, f2 _ e4, ⟨n, kd, kg, rm, g, fa, ki, mo, gr, hB, hL, hH⟩, gh_fr_refl _ _⟩
