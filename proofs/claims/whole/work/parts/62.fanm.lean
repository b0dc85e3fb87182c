/-! ===== FANS: sets of hours as bits ===== -/
def gf_mkn (f : Nat → Bool) : Nat → Nat
  | 0 => 0
  | n + 1 => gf_mkn f n ||| (bif f n then 2 ^ n else 0)
def gf_mk (f : Nat → Bool) : Nat := gf_mkn f 12
theorem gf_mkn_t (f : Nat → Bool) : ∀ n i, (gf_mkn f n).testBit i = (decide (i < n) && f i) := by
  intro n
  induction n with
  | zero => intro i; simp [gf_mkn]
  | succ n ih =>
    intro i
    rw [gf_mkn, Nat.testBit_or, ih]
    have h : (bif f n then 2 ^ n else 0).testBit i = (decide (n = i) && f n) := by
      cases f n with
      | true => rw [cond_true, Nat.testBit_two_pow, Bool.and_true]
      | false => rw [cond_false, Nat.zero_testBit, Bool.and_false]
    rw [h]
    by_cases e : i = n
    · subst e
      simp
    · have e2 : ¬ n = i := fun q => e q.symm
      by_cases e3 : i < n
      · simp [e2, e3, show i < n + 1 by omega]
      · simp [e2, e3, show ¬ i < n + 1 by omega]
theorem gf_mk_t (f : Nat → Bool) (i : Nat) : (gf_mk f).testBit i = (decide (i < 12) && f i) := gf_mkn_t f 12 i
theorem gf_mk_lt (f : Nat → Bool) : gf_mk f < 4096 := by
  refine Nat.lt_pow_two_of_testBit (n := 12) _ (fun i hi => ?_)
  rw [gf_mk_t, decide_eq_false (by omega)]
  rfl
theorem gf_mk_cg {f g : Nat → Bool} (h : ∀ i, i < 12 → f i = g i) : gf_mk f = gf_mk g := by
  refine Nat.eq_of_testBit_eq (fun i => ?_)
  rw [gf_mk_t, gf_mk_t]
  by_cases e : i < 12
  · rw [h i e]
  · simp [e]
theorem gf_nb (n i : Nat) (hi : i < 32) : (nI n).toBitVec.getLsbD i = n.testBit i := by
  show (BitVec.ofNat 32 n).getLsbD i = _
  rw [BitVec.getLsbD_ofNat]
  simp [hi]
theorem gf_ext {x y : Int32} (h : ∀ i, i < 32 → x.toBitVec.getLsbD i = y.toBitVec.getLsbD i) : x = y := Int32.toBitVec.inj (BitVec.eq_of_getLsbD_eq h)
theorem gf_and (f g : Nat → Bool) : nI (gf_mk f) &&& nI (gf_mk g) = nI (gf_mk (fun i => f i && g i)) := by
  refine gf_ext (fun i hi => ?_)
  rw [Int32.toBitVec_and, BitVec.getLsbD_and, gf_nb _ _ hi, gf_nb _ _ hi, gf_nb _ _ hi, gf_mk_t, gf_mk_t, gf_mk_t]
  cases decide (i < 12) <;> simp
theorem gf_or (f g : Nat → Bool) : nI (gf_mk f) ||| nI (gf_mk g) = nI (gf_mk (fun i => f i || g i)) := by
  refine gf_ext (fun i hi => ?_)
  rw [Int32.toBitVec_or, BitVec.getLsbD_or, gf_nb _ _ hi, gf_nb _ _ hi, gf_nb _ _ hi, gf_mk_t, gf_mk_t, gf_mk_t]
  cases decide (i < 12) <;> simp
theorem gf_m1 : ∀ i, i < 32 → (-1 : Int32).toBitVec.getLsbD i = true := by decide
theorem gf_andn (f g : Nat → Bool) : nI (gf_mk f) &&& (nI (gf_mk g) ^^^ (-1 : Int32)) = nI (gf_mk (fun i => f i && !g i)) := by
  refine gf_ext (fun i hi => ?_)
  rw [Int32.toBitVec_and, BitVec.getLsbD_and, Int32.toBitVec_xor, BitVec.getLsbD_xor, gf_m1 i hi, gf_nb _ _ hi, gf_nb _ _ hi, gf_nb _ _ hi, gf_mk_t, gf_mk_t, gf_mk_t]
  cases decide (i < 12) <;> simp
theorem gf_one : ∀ h, h < 12 → (1 : Int32) <<< (nI h &&& 31) = nI (gf_mk (fun i => Nat.beq i h)) := by decide +kernel
theorem gf_lim : ∀ l, l < 13 → ((1 : Int32) <<< (nI l &&& 31)) - (1 : Int32) = nI (gf_mk (fun i => Nat.blt i l)) := by decide +kernel
theorem gf_eq0 (f : Nat → Bool) : gh_cmp .eq (nI (gf_mk f)) 0 = true ↔ ∀ i, i < 12 → f i = false := by
  have hl := gf_mk_lt f
  rw [show gh_cmp .eq (nI (gf_mk f)) 0 = decide (gf_mk f = 0) from gh_n_eq (b := 0) (by omega) (by omega), decide_eq_true_iff]
  constructor
  · intro h i hi
    have := gf_mk_t f i
    rw [h, Nat.zero_testBit, decide_eq_true hi, Bool.true_and] at this
    exact this.symm
  · intro h
    refine Nat.eq_of_testBit_eq (fun i => ?_)
    rw [gf_mk_t, Nat.zero_testBit]
    by_cases e : i < 12
    · rw [h i e, Bool.and_false]
    · simp [e]
theorem gf_ne0 (f : Nat → Bool) : gh_cmp .eq (nI (gf_mk f)) 0 = false ↔ ∃ i, i < 12 ∧ f i = true := by
  constructor
  · intro h
    refine Classical.byContradiction fun hn => ?_
    have : gh_cmp .eq (nI (gf_mk f)) 0 = true := (gf_eq0 f).mpr (fun i hi => gf_bf (fun q => hn ⟨i, hi, q⟩))
    rw [this] at h
    cases h
  · intro ⟨i, hi, hf⟩
    refine gf_bf (fun h => ?_)
    have := (gf_eq0 f).mp h i hi
    rw [hf] at this
    cases this
theorem gf_bit (f : Nat → Bool) {h : Nat} (hh : h < 12) : gh_cmp .eq (nI (gf_mk f) &&& ((1 : Int32) <<< (nI h &&& 31))) 0 = !f h := by
  rw [gf_one h hh, gf_and]
  cases e : f h with
  | true =>
    refine (gf_ne0 _).mpr ⟨h, hh, ?_⟩
    show (f h && Nat.beq h h) = true
    rw [e, Nat.beq_refl]
    rfl
  | false =>
    refine (gf_eq0 _).mpr (fun i hi => ?_)
    show (f i && Nat.beq i h) = false
    by_cases e2 : i = h
    · rw [e2, e]
      rfl
    · rw [show Nat.beq i h = false from gf_bf (fun q => e2 (Nat.eq_of_beq_eq_true q)), Bool.and_false]
theorem gf_set (f : Nat → Bool) {h : Nat} (hh : h < 12) : nI (gf_mk f) ||| ((1 : Int32) <<< (nI h &&& 31)) = nI (gf_mk (fun i => f i || Nat.beq i h)) := by
  rw [gf_one h hh, gf_or]
theorem gf_clr (f : Nat → Bool) {h : Nat} (hh : h < 12) : nI (gf_mk f) &&& (((1 : Int32) <<< (nI h &&& 31)) ^^^ (-1 : Int32)) = nI (gf_mk (fun i => f i && !Nat.beq i h)) := by
  rw [gf_one h hh, gf_andn]
theorem gf_smod : ∀ h, h < 12 → (((nI h &&& 31) : Int32).toBitVec.smod 32).toNat = h := by decide +kernel
theorem gf_shr (f : Nat → Bool) {h : Nat} (hh : h < 12) : nI (gf_mk f) >>> (nI h &&& 31) = nI (gf_mk f / 2 ^ h) := pk_shrN (by have := gf_mk_lt f; omega) _ h (gf_smod h hh)
theorem gf_shr0 (f : Nat → Bool) {h : Nat} (hh : h < 12) : gh_cmp .eq (nI (gf_mk f) >>> (nI h &&& 31)) 0 = true → ∀ i, h ≤ i → i < 12 → f i = false := by
  intro hc i h1 h2
  have hl := gf_mk_lt f
  have hd : gf_mk f / 2 ^ h ≤ gf_mk f := Nat.div_le_self _ _
  rw [gf_shr f hh, show gh_cmp .eq (nI (gf_mk f / 2 ^ h)) 0 = decide (gf_mk f / 2 ^ h = 0) from gh_n_eq (b := 0) (by omega) (by omega), decide_eq_true_iff] at hc
  have hlt : gf_mk f < 2 ^ h := by
    rcases (Nat.div_eq_zero_iff).mp hc with q | q
    · exact absurd q (Nat.pos_iff_ne_zero.mp (Nat.two_pow_pos h))
    · exact q
  have := Nat.testBit_lt_two_pow (Nat.lt_of_lt_of_le hlt (Nat.pow_le_pow_right (by decide) h1))
  rw [gf_mk_t, decide_eq_true h2, Bool.true_and] at this
  exact this
theorem gf_shrb (f : Nat → Bool) {h : Nat} (hh : h < 12) : gh_cmp .eq ((nI (gf_mk f) >>> (nI h &&& 31)) &&& (1 : Int32)) 0 = !f h := by
  have hl := gf_mk_lt f
  have hd : gf_mk f / 2 ^ h ≤ gf_mk f := Nat.div_le_self _ _
  rw [gf_shr f hh, pk_andN (by omega) 1 (by decide), show gh_cmp .eq (nI (gf_mk f / 2 ^ h % 2 ^ 1)) 0 = decide (gf_mk f / 2 ^ h % 2 ^ 1 = 0) from gh_n_eq (b := 0) (by omega) (by omega)]
  have ht := gf_mk_t f h
  rw [decide_eq_true hh, Bool.true_and, Nat.testBit_eq_decide_div_mod_eq] at ht
  rw [← ht]
  by_cases e : gf_mk f / 2 ^ h % 2 = 1
  · rw [decide_eq_true e, decide_eq_false (by omega)]
    rfl
  · rw [decide_eq_false e, decide_eq_true (by omega)]
    rfl
theorem gf_shrn (f : Nat → Bool) {h : Nat} (hh : h < 12) : gh_cmp .ne ((nI (gf_mk f) >>> (nI h &&& 31)) &&& (1 : Int32)) 0 = f h := by
  have e := gf_shrb f hh
  rw [gh_c_eq] at e
  rw [gh_c_ne]
  cases q : f h with
  | true =>
    rw [q] at e
    exact decide_eq_true (decide_eq_false_iff_not.mp e)
  | false =>
    rw [q] at e
    exact decide_eq_false (not_not_intro (decide_eq_true_iff.mp e))
