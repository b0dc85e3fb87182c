/-! ===== TAPE: feed, end ===== -/
/-- byte i of an int: 0 the highest -/
def gt_b (x : Int32) (i : Nat) : Nat := x.toBitVec.toNat / 2 ^ (24 - 8 * i) % 256
/-- a byte as the reference keeps it -/
def gt_sb (b : Nat) : Int32 := if b < 128 then nI b else gq_Z ((b : Int) - 256)
theorem gt_b_lt (x : Int32) (i : Nat) : gt_b x i < 256 := Nat.mod_lt _ (by decide)
theorem gt_X (x : Int32) : x.toInt = if x.toBitVec.toNat < 2147483648 then (x.toBitVec.toNat : Int) else (x.toBitVec.toNat : Int) - 4294967296 := by
  have h : x.toInt = x.toBitVec.toInt := rfl
  rw [h, BitVec.toInt_eq_toNat_cond]
  by_cases e : x.toBitVec.toNat < 2147483648
  · rw [if_pos (by omega), if_pos e]
  · rw [if_neg (by omega), if_neg e]
    rfl
theorem gt_sb_toInt {b : Nat} (hb : b < 256) : (gt_sb b).toInt = if b < 128 then (b : Int) else (b : Int) - 256 := by
  unfold gt_sb
  by_cases e : b < 128
  · rw [if_pos e, if_pos e, nI_toInt (by omega)]
  · rw [if_neg e, if_neg e, gq_Z_toInt (by omega) (by omega)]
theorem gt_ub (x : Int32) (s : Int32) (k : Nat) (hs : ((s.toUInt32 &&& Int32.toUInt32 31).toBitVec % 32).toNat = k) : ((x.toUInt32 >>> (s.toUInt32 &&& Int32.toUInt32 31)).toInt32) &&& (255 : Int32) = nI (x.toBitVec.toNat / 2 ^ k % 256) := by
  rw [pk_and _ (m := 255) 8 (by decide), pk_ushr x s k hs]
theorem gt_sr (x : Int32) (s : Int32) (k : Nat) (hk : k = 24 ∨ k = 16 ∨ k = 8) (hs : (s.toBitVec.smod 32).toNat = k) : vp_nar .byte ((x >>> s : Int32).toInt8.toInt32) = gt_sb (x.toBitVec.toNat / 2 ^ k % 256) := by
  rw [pk_vb]
  refine Int32.toInt_inj.mp ?_
  rw [gt_sb_toInt (Nat.mod_lt _ (by decide)), Int8.toInt_toInt32, Int32.toInt_toInt8, pk_shr x s k hs, Int.shiftRight_eq_div_pow, gt_X]
  have hX : x.toBitVec.toNat < 4294967296 := x.toBitVec.isLt
  generalize x.toBitVec.toNat = X at hX ⊢
  rcases hk with rfl | rfl | rfl
  · show Int.bmod ((if X < 2147483648 then (X : Int) else (X : Int) - 4294967296) / 16777216) 256 = if X / 16777216 % 256 < 128 then ((X / 16777216 % 256 : Nat) : Int) else ((X / 16777216 % 256 : Nat) : Int) - 256
    unfold Int.bmod
    dsimp only
    split <;> split <;> split <;> omega
  · show Int.bmod ((if X < 2147483648 then (X : Int) else (X : Int) - 4294967296) / 65536) 256 = if X / 65536 % 256 < 128 then ((X / 65536 % 256 : Nat) : Int) else ((X / 65536 % 256 : Nat) : Int) - 256
    unfold Int.bmod
    dsimp only
    split <;> split <;> split <;> omega
  · show Int.bmod ((if X < 2147483648 then (X : Int) else (X : Int) - 4294967296) / 256) 256 = if X / 256 % 256 < 128 then ((X / 256 % 256 : Nat) : Int) else ((X / 256 % 256 : Nat) : Int) - 256
    unfold Int.bmod
    dsimp only
    split <;> split <;> split <;> omega
theorem gt_sr0 (x : Int32) : vp_nar .byte ((x : Int32).toInt8.toInt32) = gt_sb (x.toBitVec.toNat / 2 ^ 0 % 256) := by
  rw [pk_vb]
  refine Int32.toInt_inj.mp ?_
  rw [gt_sb_toInt (Nat.mod_lt _ (by decide)), Int8.toInt_toInt32, Int32.toInt_toInt8, gt_X]
  have hX : x.toBitVec.toNat < 4294967296 := x.toBitVec.isLt
  generalize x.toBitVec.toNat = X at hX ⊢
  show Int.bmod (if X < 2147483648 then (X : Int) else (X : Int) - 4294967296) 256 = if X / 1 % 256 < 128 then ((X / 1 % 256 : Nat) : Int) else ((X / 1 % 256 : Nat) : Int) - 256
  unfold Int.bmod
  dsimp only
  split <;> split <;> split <;> omega
def gt_put (bs : Nat → Nat) (n : Nat) (x : Int32) : Nat → Nat := gh_nu (gh_nu (gh_nu (gh_nu bs n (gt_b x 0)) (n + 1) (gt_b x 1)) (n + 2) (gt_b x 2)) (n + 3) (gt_b x 3)
/-- the tape in the class, in the reference -/
def gt_W (S : gh_St) (n : Nat) (bs : Nat → Nat) : Prop := S.1 43 1 = nI n ∧ ∀ k, k < 200 → S.1 44 k = nI (bs k)
def gt_V (S : gh_St) (n : Nat) (bs : Nat → Nat) : Prop := S.1 56 31 = nI n ∧ ∀ k, k < 200 → S.1 76 k = gt_sb (bs k)
def gt_CC (c k : Nat) : Bool := Nat.beq c 44 || (Nat.beq c 43 && Nat.beq k 1)
def gt_CR (c k : Nat) : Bool := Nat.beq c 76 || (Nat.beq c 56 && Nat.beq k 31)
theorem gt_W_st {S : gh_St} {n : Nat} {bs : Nat → Nat} (h : gt_W S n bs) {b : Nat} : gt_W (gh_fI (gh_fI S 44 n (nI b)) 43 1 (nI (n + 1))) (n + 1) (gh_nu bs n b) := by
  refine ⟨by rw [gh_fI_1, if_pos ⟨rfl, rfl⟩], fun k hk => ?_⟩
  rw [gh_fI_1, if_neg (by omega), gh_fI_1]
  unfold gh_nu
  by_cases e : k = n
  · rw [if_pos ⟨rfl, e⟩, if_pos e]
  · rw [if_neg (fun w => e w.2), if_neg e]
    exact h.2 k hk
theorem gt_putC (N : Nat) (hN : 100 ≤ N) {S : gh_St} {n : Nat} {bs : Nat → Nat} (x : Int32) (h : gt_W S n bs) (hn : n + 4 ≤ 200) : ∃ S', sX8_put N x S = some S' ∧ gt_W S' (n + 4) (gt_put bs n x) ∧ gh_fr gt_CC S S' := by
  obtain ⟨N', hN'⟩ : ∃ q, N = q + 5 := ⟨N - 5, by omega⟩
  have hr : sX8_hasRoom N 4 S = some (1, S) := by
    unfold sX8_hasRoom
    rw [h.1, show (4 : Int32) = nI 4 from rfl, nI_add, show gh_cmp .gt (nI (n + 4)) 200 = decide (200 < n + 4) from gh_n_gt (b := 200) (by omega) (by omega), decide_eq_false (by omega)]
    rfl
  have step : ∀ (T : gh_St) (m : Nat) (cs : Nat → Nat) (fu : Nat) (s s' : Int32) (k : Nat), gt_W T m cs → m < 200 → gh_cmp .lt s 0 = false → ((s.toUInt32 &&& Int32.toUInt32 31).toBitVec % 32).toNat = k → s + (-8) = s' → sX8_put_12 N (fu + 1) x s T = sX8_put_12 N fu x s' (gh_fI (gh_fI T 44 m (nI (x.toBitVec.toNat / 2 ^ k % 256))) 43 1 (nI (m + 1))) := by
    intro T m cs fu s s' k hT hm hs hk hss
    rw [sX8_put_12, hs, cond_false, hT.1, gh_wa_n hm (by decide), gq_bs, gt_ub x s k hk, hss, show (gh_fI T 44 m (nI (x.toBitVec.toNat / 2 ^ k % 256))).1 43 1 = nI m from by rw [gh_fI_1, if_neg (by omega)]; exact hT.1, nI_1]
  have w1 := gt_W_st h (b := gt_b x 0)
  have w2 := gt_W_st w1 (b := gt_b x 1)
  have w3 := gt_W_st w2 (b := gt_b x 2)
  have w4 := gt_W_st w3 (b := gt_b x 3)
  have e1 := step S n bs (N' + 4) 24 16 24 h (by omega) (by decide) (by decide) (by decide)
  have e2 := step _ (n + 1) _ (N' + 3) 16 8 16 w1 (by omega) (by decide) (by decide) (by decide)
  have e3 := step _ (n + 2) _ (N' + 2) 8 0 8 w2 (by omega) (by decide) (by decide) (by decide)
  have e4 := step _ (n + 3) _ (N' + 1) 0 (-8) 0 w3 (by omega) (by decide) (by decide) (by decide)
  refine ⟨_, ?_, w4, ?_⟩
  · unfold sX8_put
    rw [hr, gq_bs]
    show sX8_put_12 N N x 24 S = _
    rw [show sX8_put_12 N N x 24 S = sX8_put_12 N (N' + 5) x 24 S by rw [← hN']]
    refine e1.trans (e2.trans (e3.trans (e4.trans ?_)))
    rw [sX8_put_12]
    rfl
  · repeat first | exact gh_fr_refl _ _ | refine gh_fr_fI ?_ rfl
theorem gt_putR (N : Nat) {S : gh_St} {n : Nat} {bs : Nat → Nat} (x : Int32) (h : gt_V S n bs) (hn : n + 4 ≤ 200) : ∃ S', sX10_put N x S = some S' ∧ gt_V S' (n + 4) (gt_put bs n x) ∧ gh_fr gt_CR S S' := by
  have hs24 : vp_nar .byte ((x >>> ((24 : Int32) &&& 31) : Int32).toInt8.toInt32) = gt_sb (gt_b x 0) := gt_sr x _ 24 (Or.inl rfl) (by decide)
  have hs16 : vp_nar .byte ((x >>> ((16 : Int32) &&& 31) : Int32).toInt8.toInt32) = gt_sb (gt_b x 1) := gt_sr x _ 16 (Or.inr (Or.inl rfl)) (by decide)
  have hs8 : vp_nar .byte ((x >>> ((8 : Int32) &&& 31) : Int32).toInt8.toInt32) = gt_sb (gt_b x 2) := gt_sr x _ 8 (Or.inr (Or.inr rfl)) (by decide)
  have hs0 : vp_nar .byte ((x : Int32).toInt8.toInt32) = gt_sb (gt_b x 3) := gt_sr0 x
  have r : ∀ (T : gh_St) k y, (gh_fI T 76 k y).1 56 31 = T.1 56 31 := fun T k y => by rw [gh_fI_1, if_neg (by omega)]
  refine ⟨gh_fI (gh_fI (gh_fI (gh_fI (gh_fI S 76 n (gt_sb (gt_b x 0))) 76 (n + 1) (gt_sb (gt_b x 1))) 76 (n + 2) (gt_sb (gt_b x 2))) 76 (n + 3) (gt_sb (gt_b x 3))) 56 31 (nI (n + 4)), ?_, ⟨by rw [gh_fI_1, if_pos ⟨rfl, rfl⟩], fun k hk => ?_⟩, ?_⟩
  · unfold sX10_put
    rw [hs24, hs16, hs8, hs0, h.1, gh_wa_n (by omega) (by decide), gq_bs, r, h.1, nI_1, gh_wa_n (by omega) (by decide), gq_bs, r, r, h.1, show (2 : Int32) = nI 2 from rfl, nI_add, gh_wa_n (by omega) (by decide), gq_bs, r, r, r, h.1, show (3 : Int32) = nI 3 from rfl, nI_add, gh_wa_n (by omega) (by decide), gq_bs, r, r, r, r, h.1, show (4 : Int32) = nI 4 from rfl, nI_add]
  · unfold gt_put gh_nu
    simp only [gh_fI_1]
    by_cases e3 : k = n + 3
    · simp [e3]
    · by_cases e2 : k = n + 2
      · simp [e2]
      · by_cases e1 : k = n + 1
        · simp [e1]
        · by_cases e0 : k = n
          · simp [e0]
          · simp [e0, e1, e2, e3, h.2 k hk]
  · repeat first | exact gh_fr_refl _ _ | refine gh_fr_fI ?_ rfl
theorem gt_put_le {bs : Nat → Nat} {n : Nat} {x : Int32} (h : ∀ k, bs k < 256) : ∀ k, gt_put bs n x k < 256 := by
  intro k
  unfold gt_put gh_nu
  have b0 := gt_b_lt x 0
  have b1 := gt_b_lt x 1
  have b2 := gt_b_lt x 2
  have b3 := gt_b_lt x 3
  have hk := h k
  repeat first | exact b0 | exact b1 | exact b2 | exact b3 | exact hk | split
