/-! ===== worth, account ===== -/
/-- answers alike and changes nothing -/
def gl_ro {α : Type} (f g : gh_St → Option (α × gh_St)) (S : gh_St) : Prop := ∃ v, f S = some (v, S) ∧ g S = some (v, S)
theorem gl_dj {a b : Nat} (ha : a < 2 ^ 63) (h1 : 1 ≤ b) (hb : b < 2 ^ 31) : gh_dj (lN a) (lN b) = some (lN (a / b)) := by
  unfold gh_dj
  rw [if_neg (by rw [show (0 : Int64) = lN 0 from rfl, lN_eq (by omega) (by omega)]; omega), pk_lDiv ha (by omega) (by omega)]
def gl_wth (W d : Nat) : Int32 := (lN W - lN (W * min 100 d / 100)).toInt32
section GlWo
variable {S : gh_St} {nd : Nat} {da dl pc : Nat → Nat} (N : Nat)
def gl_ct (da dl : Nat → Nat) (mo i : Nat) : Nat := if mo ≤ da i then 0 else dl i
theorem gl_ct_le {mo : Nat} (h : ∀ i, i < nd → dl i ≤ 50) : ∀ i, i ≤ nd → gh_sm (gl_ct da dl mo) i ≤ 50 * i := by
  intro i
  induction i with
  | zero => intro _; exact Nat.le_refl _
  | succ i ih =>
    intro hi
    have h1 := ih (by omega)
    have h2 := h i (by omega)
    rw [gh_sm]
    unfold gl_ct at h1 ⊢
    split <;> omega
theorem gl_vlC (b : Bool) {mo W : Nat} (hnd : nd ≤ 8) (hmo : mo ≤ 400) (hW : W ≤ 400000) (h4 : S.1 (gh_pl b) 4 = nI nd) (h5 : ∀ i, i < nd → S.1 (gh_pl b + 3) i = nI (da i) ∧ S.1 (gh_pl b + 4) i = nI (dl i) ∧ da i ≤ 400 ∧ dl i ≤ 50) : ∀ (j i fu : Nat), i + j = nd → j < fu → sX5_value_22 N b fu (nI mo) (lN W) (nI (gh_sm (gl_ct da dl mo) i)) (nI i) S = some (gl_wth W (gh_sm (gl_ct da dl mo) nd), S) := by
  have hle := gl_ct_le (nd := nd) (da := da) (dl := dl) (mo := mo) (fun i hi => (h5 i hi).2.2.2)
  intro j
  induction j with
  | zero =>
    intro i fu hi hfu
    obtain ⟨fu, rfl⟩ : ∃ q, fu = q + 1 := ⟨fu - 1, by omega⟩
    have hi : i = nd := by omega
    subst hi
    have hd := hle i (Nat.le_refl _)
    generalize gh_sm (gl_ct da dl mo) i = d at hd ⊢
    have hm : min 100 d ≤ 100 := Nat.min_le_left _ _
    have hWm : W * min 100 d ≤ 400000 * 100 := Nat.mul_le_mul hW hm
    rw [sX5_value_22, h4, gh_n_ge (by omega) (by omega), decide_eq_true (Nat.le_refl _), cond_true, show gh_min 100 (nI d) = nI (min 100 d) from gq_min (a := 100) (by omega) (by omega), nI_l (by omega), lN_mul, show (100 : Int64) = lN 100 from rfl, gl_dj (by omega) (by omega) (by omega), gq_bs]
    rfl
  | succ j ih =>
    intro i fu hi hfu
    obtain ⟨fu, rfl⟩ : ∃ q, fu = q + 1 := ⟨fu - 1, by omega⟩
    obtain ⟨d1, d2, d3, d4⟩ := h5 i (by omega)
    have := ih (i + 1) fu (by omega) (by omega)
    rw [gh_sm] at this
    rw [sX5_value_22, h4, gh_n_ge (by omega) (by omega), decide_eq_false (by omega), cond_false, gh_ra_n (by omega) (by decide), gq_bs, d1, gh_n_le (by omega) (by omega), gh_ra_n (by omega) (by decide), gq_bs, d2]
    unfold sX5_value_54
    rw [nI_1, nI_add]
    unfold gl_ct at this ⊢
    by_cases c : mo ≤ da i
    · rw [if_pos c] at this
      rw [decide_eq_true c, cond_true]
      exact this
    · rw [if_neg c] at this
      rw [decide_eq_false c, cond_false]
      exact this
theorem gl_vR9 {mo W k : Nat} (hk : k < 100) (h63 : S.1 63 k = nI mo) (hnd : nd ≤ 8) (hmo : mo ≤ 400) (hW : W ≤ 400000) (h4 : S.1 56 45 = nI nd) (h5 : ∀ i, i < nd → S.1 81 i = nI (da i) ∧ S.1 82 i = nI (dl i) ∧ da i ≤ 400 ∧ dl i ≤ 50) : ∀ (j i fu : Nat), i + j = nd → j < fu → sX10_worthOf_30 N fu (nI k) (lN W) (nI (gh_sm (gl_ct da dl mo) i)) (nI i) S = some (gl_wth W (gh_sm (gl_ct da dl mo) nd), S) := by
  have hle := gl_ct_le (nd := nd) (da := da) (dl := dl) (mo := mo) (fun i hi => (h5 i hi).2.2.2)
  intro j
  induction j with
  | zero =>
    intro i fu hi hfu
    obtain ⟨fu, rfl⟩ : ∃ q, fu = q + 1 := ⟨fu - 1, by omega⟩
    have hi : i = nd := by omega
    subst hi
    have hd := hle i (Nat.le_refl _)
    generalize gh_sm (gl_ct da dl mo) i = d at hd ⊢
    have e91 : ∀ m, m ≤ 100 → sX10_worthOf_91 N (lN W) (nI m) S = some ((lN W - lN (W * m / 100)).toInt32, S) := fun m hm => by
      have hWm : W * m ≤ 400000 * 100 := Nat.mul_le_mul hW hm
      unfold sX10_worthOf_91
      rw [nI_l (by omega), lN_mul, show (100 : Int64) = lN 100 from rfl, gl_dj (by omega) (by omega) (by omega), gq_bs]
    rw [sX10_worthOf_30, h4, gh_n_ge (by omega) (by omega), decide_eq_true (Nat.le_refl _), cond_true, show gh_cmp .le (nI d) 100 = decide (d ≤ 100) from gh_n_le (b := 100) (by omega) (by omega)]
    unfold gl_wth
    by_cases c : d ≤ 100
    · rw [decide_eq_true c, cond_true, e91 d c, show min 100 d = d from Nat.min_eq_right c]
    · rw [decide_eq_false c, cond_false, show (100 : Int32) = nI 100 from rfl, e91 100 (by omega), show min 100 d = 100 from Nat.min_eq_left (by omega)]
  | succ j ih =>
    intro i fu hi hfu
    obtain ⟨fu, rfl⟩ : ∃ q, fu = q + 1 := ⟨fu - 1, by omega⟩
    obtain ⟨d1, d2, d3, d4⟩ := h5 i (by omega)
    have := ih (i + 1) fu (by omega) (by omega)
    rw [gh_sm] at this
    rw [sX10_worthOf_30, h4, gh_n_ge (by omega) (by omega), decide_eq_false (by omega), cond_false, gh_ra_n hk (by decide), gq_bs, h63, gh_ra_n (by omega) (by decide), gq_bs, d1, gh_n_le (by omega) (by omega), gh_ra_n (by omega) (by decide), gq_bs, d2]
    unfold sX10_worthOf_68
    rw [nI_1, nI_add]
    unfold gl_ct at this ⊢
    by_cases c : mo ≤ da i
    · rw [if_pos c] at this
      rw [decide_eq_true c, cond_true, show (0 : Int32) = nI 0 from rfl, nI_add]
      exact this
    · rw [if_neg c] at this
      rw [decide_eq_false c, cond_false]
      exact this
/-- a load's worth, on both sides -/
theorem gl_val1 (hN : 100 ≤ N) {n : Nat} {fa ki mo gr : Nat → Nat} (hL : gq_RL S n fa ki mo gr) (hP : gl_P S) {k : Nat} (hk : k < 100) : ∃ v, sX3_value N S.2.2 (nI k) S = some (v, S) ∧ sX10_worthOf N (nI k) S = some (v, S) := by
  obtain ⟨nd, da, dl, pc, p1, p2, p3, p4, p5⟩ := hP
  obtain ⟨l1, l2, l3, l4, l5, l6, l7, l8, l9, l10, l11, l12⟩ := hL.2.2.2 k hk
  obtain ⟨q1, q2, q3⟩ := p4 (ki k) (by omega)
  have hg : gr k * pc (ki k) ≤ 40000000 * 9999 := Nat.mul_le_mul l12 q3
  have hW : gr k * pc (ki k) / 1000000 ≤ 400000 := by omega
  refine ⟨gl_wth (gr k * pc (ki k) / 1000000) (gh_sm (gl_ct da dl (mo k)) nd), ?_, ?_⟩
  · have := gl_vlC (S := S) (da := da) (dl := dl) N S.2.2 p1 l11 hW p2 (fun i hi => ⟨(p5 i hi).1, (p5 i hi).2.2.1, (p5 i hi).2.2.2.2.1, (p5 i hi).2.2.2.2.2⟩) nd 0 N (by omega) (by omega)
    unfold sX3_value sX5_value
    rw [gh_ra_n hk (by decide), gq_bs, l3, gh_ra_n hk (by decide), gq_bs, l5, gh_ra_n hk (by decide), gq_bs, l7, gh_ra_n (by omega) (by decide), gq_bs, q1, nI_l (by omega), nI_l (by omega), lN_mul, show (1000000 : Int64) = lN 1000000 from rfl, gl_dj (by omega) (by omega) (by omega), gq_bs]
    refine (congrArg (fun m => Option.bind m _) this).trans ?_
    rfl
  · have := gl_vR9 (S := S) (da := da) (dl := dl) N hk l6 p1 l11 hW p3 (fun i hi => ⟨(p5 i hi).2.1, (p5 i hi).2.2.2.1, (p5 i hi).2.2.2.2.1, (p5 i hi).2.2.2.2.2⟩) nd 0 N (by omega) (by omega)
    unfold sX10_worthOf
    rw [gh_rj_n hk (by decide), gq_bs, l8, gh_ra_n hk (by decide), gq_bs, l4, gh_ra_n (by omega) (by decide), gq_bs, q2, nI_l (by omega), lN_mul, show (1000000 : Int64) = lN 1000000 from rfl, gl_dj (by omega) (by omega) (by omega), gq_bs]
    exact this
theorem gl_worth (hN : 100 ≤ N) (a : Int32) (h1 : gq_R1 S) (hP : gl_P S) : gl_ro (sX9_worth N a) (sX10_worth N a) S := by
  obtain ⟨n, kd, kg, rm, g, fa, ki, mo, gr, hB, hL, hH⟩ := h1
  have hn := hL.1
  have e1 : (nI n - 1 : Int32).toInt = (n : Int) - 1 := by
    rw [show (1 : Int32) = nI 1 from rfl, pk_sub_toInt (by omega) (by decide)]
    omega
  unfold gl_ro
  cases c1 : gh_rg a.toInt 0 ((n : Int) - 1) with
  | false => exact ⟨-1, by simp only [sX9_worth, gq_bs, gq_B_eq, gq_B_ne, gq_B_gB, Bool.not_true, Bool.not_false, Bool.true_and, Bool.false_and, Bool.and_true, Bool.and_false, cond_true, cond_false, gh_isBin9, gh_isKind9, gh_isFarmer9, gh_within, gh_inR, gh_isBin10, gh_isKind10, Int32.toInt_toInt64, Int32.reduceToInt, Int64.reduceToInt, decide_true, decide_false, hL.2.1, e1, c1], by simp only [sX10_worth, gq_bs, gq_B_eq, gq_B_ne, gq_B_gB, Bool.not_true, Bool.not_false, Bool.true_and, Bool.false_and, Bool.and_true, Bool.and_false, cond_true, cond_false, gh_isBin9, gh_isKind9, gh_isFarmer9, gh_within, gh_inR, gh_isBin10, gh_isKind10, Int32.toInt_toInt64, Int32.reduceToInt, Int64.reduceToInt, decide_true, decide_false, hL.2.2.1, e1, c1]⟩
  | true =>
  obtain ⟨k, -, rfl, -, hk, -⟩ := gh_rgN c1 (by decide)
  obtain ⟨v, v1, v2⟩ := gl_val1 N hN hL hP (k := k) (by omega)
  exact ⟨v, by simp only [sX9_worth, gq_bs, gq_B_eq, gq_B_ne, gq_B_gB, Bool.not_true, Bool.not_false, Bool.true_and, Bool.false_and, Bool.and_true, Bool.and_false, cond_true, cond_false, gh_isBin9, gh_isKind9, gh_isFarmer9, gh_within, gh_inR, gh_isBin10, gh_isKind10, Int32.toInt_toInt64, Int32.reduceToInt, Int64.reduceToInt, decide_true, decide_false, hL.2.1, e1, c1, v1], by simp only [sX10_worth, gq_bs, gq_B_eq, gq_B_ne, gq_B_gB, Bool.not_true, Bool.not_false, Bool.true_and, Bool.false_and, Bool.and_true, Bool.and_false, cond_true, cond_false, gh_isBin9, gh_isKind9, gh_isFarmer9, gh_within, gh_inR, gh_isBin10, gh_isKind10, Int32.toInt_toInt64, Int32.reduceToInt, Int64.reduceToInt, decide_true, decide_false, hL.2.2.1, e1, c1, v2]⟩
/-- a sum over what stands for a farmer -/
def gl_ac (q : Nat → Bool) (f : Nat → Int64) : Nat → Nat → Int64 → Int64
  | 0, _, x => x
  | j + 1, i, x => gl_ac q f j (i + 1) (bif q i then x + f i else x)
/-- the reference's account -/
theorem gl_acR {n w : Nat} {fa ki mo gr : Nat → Nat} (hL : gq_RL S n fa ki mo gr) {a2 : Int32} {f : Nat → Int64} (hw : w ≤ 9)
    (hf : ∀ (i fu : Nat) (x : Int64), i < n → (bif gh_cmp .ne a2 0 then (bif gh_cmp .ne a2 1 then (sX10_account_84 N (sX10_account_33 N fu) (nI w) a2 (nI i) 1 x S) else ((sX10_worthOf N (nI i) S).bind fun q2 => sX10_account_84 N (sX10_account_33 N fu) (nI w) a2 (nI i) ((q2.1 : Int32).toInt64) x q2.2)) else ((gh_rj S 64 100 (nI i)).bind fun x4 => sX10_account_84 N (sX10_account_33 N fu) (nI w) a2 (nI i) x4 x S)) = sX10_account_33 N fu (nI w) a2 (x + f i) (nI (i + 1)) S) :
    ∀ (j i fu : Nat) (x : Int64), i + j = n → j < fu → sX10_account_33 N fu (nI w) a2 x (nI i) S = some (gl_ac (fun i => decide (fa i = w)) f j i x, S) := by
  have hn := hL.1
  intro j
  induction j with
  | zero =>
    intro i fu x hi hfu
    obtain ⟨fu, rfl⟩ : ∃ q, fu = q + 1 := ⟨fu - 1, by omega⟩
    rw [sX10_account_33, hL.2.2.1, gh_n_ge (by omega) (by omega), decide_eq_true (by omega), cond_true]
    rfl
  | succ j ih =>
    intro i fu x hi hfu
    obtain ⟨fu, rfl⟩ : ∃ q, fu = q + 1 := ⟨fu - 1, by omega⟩
    have l := hL.2.2.2 i (by omega)
    have l9 := l.2.2.2.2.2.2.2.2.1
    rw [sX10_account_33, hL.2.2.1, gh_n_ge (by omega) (by omega), decide_eq_false (by omega), cond_false, gh_ra_n (by omega) (by decide), gq_bs, l.2.1, gh_n_ne (by omega) (by omega), gl_ac]
    by_cases c : fa i = w
    · rw [decide_eq_false (not_not_intro c), cond_false, hf i fu x (by omega), decide_eq_true c, cond_true]
      exact ih (i + 1) fu _ (by omega) (by omega)
    · rw [decide_eq_true c, cond_true, decide_eq_false c, cond_false]
      unfold sX10_account_86
      rw [nI_1]
      exact ih (i + 1) fu _ (by omega) (by omega)
theorem gl_grC {n w : Nat} {fa ki mo gr : Nat → Nat} (hL : gq_RL S n fa ki mo gr) (hw : w ≤ 9) : ∀ (j i fu : Nat) (x : Int64), i + j = n → j < fu → sX3_gramsOf_5 N fu (nI w) x (nI i) S = some (gl_ac (fun i => decide (fa i = w)) (fun i => lN (gr i)) j i x, S) := by
  have hn := hL.1
  intro j
  induction j with
  | zero =>
    intro i fu x hi hfu
    obtain ⟨fu, rfl⟩ : ∃ q, fu = q + 1 := ⟨fu - 1, by omega⟩
    rw [sX3_gramsOf_5, hL.2.1, gh_n_ge (by omega) (by omega), decide_eq_true (by omega), cond_true]
    rfl
  | succ j ih =>
    intro i fu x hi hfu
    obtain ⟨fu, rfl⟩ : ∃ q, fu = q + 1 := ⟨fu - 1, by omega⟩
    obtain ⟨l1, l2, l3, l4, l5, l6, l7, l8, l9, l10, l11, l12⟩ := hL.2.2.2 i (by omega)
    rw [sX3_gramsOf_5, hL.2.1, gh_n_ge (by omega) (by omega), decide_eq_false (by omega), cond_false, gh_ra_n (by omega) (by decide), gq_bs, l1, gh_n_ne (by omega) (by omega), gl_ac]
    unfold sX3_gramsOf_36
    rw [nI_1, gh_ra_n (by omega) (by decide), gq_bs, l7, nI_l (by omega)]
    by_cases c : fa i = w
    · rw [decide_eq_false (not_not_intro c), cond_false, decide_eq_true c, cond_true]
      exact ih (i + 1) fu _ (by omega) (by omega)
    · rw [decide_eq_true c, cond_true, decide_eq_false c, cond_false]
      exact ih (i + 1) fu _ (by omega) (by omega)
theorem gl_voC {n w : Nat} {fa ki mo gr : Nat → Nat} (hL : gq_RL S n fa ki mo gr) (hw : w ≤ 9) {b : Bool} {vs : Nat → Int32} (hv : ∀ i, i < n → sX3_value N b (nI i) S = some (vs i, S)) : ∀ (j i fu : Nat) (x : Int64), i + j = n → j < fu → sX3_valueOf_5 N b fu (nI w) x (nI i) S = some (gl_ac (fun i => decide (fa i = w)) (fun i => (vs i).toInt64) j i x, S) := by
  have hn := hL.1
  intro j
  induction j with
  | zero =>
    intro i fu x hi hfu
    obtain ⟨fu, rfl⟩ : ∃ q, fu = q + 1 := ⟨fu - 1, by omega⟩
    rw [sX3_valueOf_5, hL.2.1, gh_n_ge (by omega) (by omega), decide_eq_true (by omega), cond_true]
    rfl
  | succ j ih =>
    intro i fu x hi hfu
    obtain ⟨fu, rfl⟩ : ∃ q, fu = q + 1 := ⟨fu - 1, by omega⟩
    obtain ⟨l1, l2, l3, l4, l5, l6, l7, l8, l9, l10, l11, l12⟩ := hL.2.2.2 i (by omega)
    rw [sX3_valueOf_5, hL.2.1, gh_n_ge (by omega) (by omega), decide_eq_false (by omega), cond_false, gh_ra_n (by omega) (by decide), gq_bs, l1, gh_n_ne (by omega) (by omega), gl_ac]
    unfold sX3_valueOf_36
    rw [nI_1, hv i (by omega), gq_bs]
    by_cases c : fa i = w
    · rw [decide_eq_false (not_not_intro c), cond_false, decide_eq_true c, cond_true]
      exact ih (i + 1) fu _ (by omega) (by omega)
    · rw [decide_eq_true c, cond_true, decide_eq_false c, cond_false]
      exact ih (i + 1) fu _ (by omega) (by omega)
theorem gl_coC {n w : Nat} {fa ki mo gr : Nat → Nat} (hL : gq_RL S n fa ki mo gr) (hw : w ≤ 9) : ∀ (j i fu c : Nat), i + j = n → j < fu → c ≤ i → ∃ c', c' ≤ n ∧ sX3_countOf_4 N fu (nI w) (nI c) (nI i) S = some (nI c', S) ∧ gl_ac (fun i => decide (fa i = w)) (fun _ => 1) j i (lN c) = lN c' := by
  have hn := hL.1
  intro j
  induction j with
  | zero =>
    intro i fu c hi hfu hc
    obtain ⟨fu, rfl⟩ : ∃ q, fu = q + 1 := ⟨fu - 1, by omega⟩
    rw [sX3_countOf_4, hL.2.1, gh_n_ge (by omega) (by omega), decide_eq_true (by omega), cond_true]
    exact ⟨c, by omega, rfl, rfl⟩
  | succ j ih =>
    intro i fu c hi hfu hc
    obtain ⟨fu, rfl⟩ : ∃ q, fu = q + 1 := ⟨fu - 1, by omega⟩
    obtain ⟨l1, l2, l3, l4, l5, l6, l7, l8, l9, l10, l11, l12⟩ := hL.2.2.2 i (by omega)
    rw [sX3_countOf_4, hL.2.1, gh_n_ge (by omega) (by omega), decide_eq_false (by omega), cond_false, gh_ra_n (by omega) (by decide), gq_bs, l1, gh_n_ne (by omega) (by omega), gl_ac]
    unfold sX3_countOf_25
    rw [nI_1, nI_1]
    by_cases e : fa i = w
    · rw [decide_eq_false (not_not_intro e), cond_false, decide_eq_true e, cond_true, show lN c + 1 = lN (c + 1) from lN_add c 1]
      exact ih (i + 1) fu (c + 1) (by omega) (by omega) (by omega)
    · rw [decide_eq_true e, cond_true, decide_eq_false e, cond_false]
      exact ih (i + 1) fu c (by omega) (by omega) (by omega)
theorem gl_account (hN : 200 ≤ N) (a1 a2 : Int32) (h1 : gq_R1 S) (hP : gl_P S) : gl_ro (sX9_account N a1 a2) (sX10_account N a1 a2) S := by
  obtain ⟨n, kd, kg, rm, g, fa, ki, mo, gr, hB, hL, hH⟩ := h1
  have hn := hL.1
  unfold gl_ro
  cases c1 : gh_rg a1.toInt 0 9 with
  | false => exact ⟨-1, by simp only [sX9_account, gq_bs, gq_B_eq, gq_B_ne, gq_B_gB, Bool.not_true, Bool.not_false, Bool.true_and, Bool.false_and, Bool.and_true, Bool.and_false, cond_true, cond_false, gh_isBin9, gh_isKind9, gh_isFarmer9, gh_within, gh_inR, gh_isBin10, gh_isKind10, Int32.toInt_toInt64, Int32.reduceToInt, Int64.reduceToInt, decide_true, decide_false, c1], by simp only [sX10_account, gq_bs, gq_B_eq, gq_B_ne, gq_B_gB, Bool.not_true, Bool.not_false, Bool.true_and, Bool.false_and, Bool.and_true, Bool.and_false, cond_true, cond_false, gh_isBin9, gh_isKind9, gh_isFarmer9, gh_within, gh_inR, gh_isBin10, gh_isKind10, Int32.toInt_toInt64, Int32.reduceToInt, Int64.reduceToInt, decide_true, decide_false, c1]⟩
  | true =>
  obtain ⟨w, -, rfl, -, hw, -⟩ := gh_rgN c1 (by decide)
  have hw : w ≤ 9 := by omega
  cases c2 : gh_rg a2.toInt 0 2 with
  | false =>
    have hc := gh_rg_not.mp c2
    have x0 : gh_cmp .eq a2 0 = false := by
      rw [gh_c_eq]
      exact decide_eq_false (fun h => hc (by rw [h]; decide))
    have x1 : gh_cmp .eq a2 1 = false := by
      rw [gh_c_eq]
      exact decide_eq_false (fun h => hc (by rw [h]; decide))
    have x2 : gh_cmp .eq a2 2 = false := by
      rw [gh_c_eq]
      exact decide_eq_false (fun h => hc (by rw [h]; decide))
    exact ⟨-1, by simp only [sX9_account, gq_bs, gq_B_eq, gq_B_ne, gq_B_gB, Bool.not_true, Bool.not_false, Bool.true_and, Bool.false_and, Bool.and_true, Bool.and_false, cond_true, cond_false, gh_isBin9, gh_isKind9, gh_isFarmer9, gh_within, gh_inR, gh_isBin10, gh_isKind10, Int32.toInt_toInt64, Int32.reduceToInt, Int64.reduceToInt, decide_true, decide_false, c1, x0, x1, x2], by simp only [sX10_account, gq_bs, gq_B_eq, gq_B_ne, gq_B_gB, Bool.not_true, Bool.not_false, Bool.true_and, Bool.false_and, Bool.and_true, Bool.and_false, cond_true, cond_false, gh_isBin9, gh_isKind9, gh_isFarmer9, gh_within, gh_inR, gh_isBin10, gh_isKind10, Int32.toInt_toInt64, Int32.reduceToInt, Int64.reduceToInt, decide_true, decide_false, c1, c2]⟩
  | true =>
  obtain ⟨k, -, rfl, -, hk, -⟩ := gh_rgN c2 (by decide)
  have e9 : sX10_account N (nI w) (nI k) S = sX10_account_33 N N (nI w) (nI k) 0 (nI 0) S := by
    simp only [sX10_account, gq_bs, gq_B_eq, gq_B_ne, gq_B_gB, Bool.not_true, Bool.not_false, Bool.true_and, Bool.false_and, Bool.and_true, Bool.and_false, cond_true, cond_false, gh_isBin9, gh_isKind9, gh_isFarmer9, gh_within, gh_inR, gh_isBin10, gh_isKind10, Int32.toInt_toInt64, Int32.reduceToInt, Int64.reduceToInt, decide_true, decide_false, c1, c2]
    rfl
  rw [e9]
  have hk3 : k = 0 ∨ k = 1 ∨ k = 2 := by omega
  rcases hk3 with rfl | rfl | rfl
  · refine ⟨_, ?_, gl_acR (f := fun i => lN (gr i)) N hL hw (fun i fu x hi => ?_) n 0 N 0 (by omega) (by omega)⟩
    · have := gl_grC (S := S) N hL hw n 0 N 0 (by omega) (by omega)
      have e : sX3_gramsOf N (nI w) S = _ := this
      simp only [sX9_account, gq_bs, gq_B_eq, gq_B_ne, gq_B_gB, Bool.not_true, Bool.not_false, Bool.true_and, Bool.false_and, Bool.and_true, Bool.and_false, cond_true, cond_false, gh_isBin9, gh_isKind9, gh_isFarmer9, gh_within, gh_inR, gh_isBin10, gh_isKind10, Int32.toInt_toInt64, Int32.reduceToInt, Int64.reduceToInt, decide_true, decide_false, c1, show gh_cmp .eq (nI 0) 0 = true from rfl, e]
    · rw [show gh_cmp .ne (nI 0) 0 = false from rfl, cond_false, gh_rj_n (by omega) (by decide), gq_bs, (hL.2.2.2 i (by omega)).2.2.2.2.2.2.2.1]
      unfold sX10_account_84 sX10_account_86
      rw [nI_1]
  · have hv : ∀ i, ∃ v, i < n → sX3_value N S.2.2 (nI i) S = some (v, S) ∧ sX10_worthOf N (nI i) S = some (v, S) := fun i => by
      by_cases hi : i < n
      · obtain ⟨v, v1, v2⟩ := gl_val1 N (by omega) hL hP (k := i) (by omega)
        exact ⟨v, fun _ => ⟨v1, v2⟩⟩
      · exact ⟨0, fun h => absurd h hi⟩
    obtain ⟨vs, hvs⟩ := Classical.axiomOfChoice hv
    refine ⟨_, ?_, gl_acR (f := fun i => (vs i).toInt64) N hL hw (fun i fu x hi => ?_) n 0 N 0 (by omega) (by omega)⟩
    · have := gl_voC (S := S) N hL hw (b := S.2.2) (vs := vs) (fun i hi => (hvs i hi).1) n 0 N 0 (by omega) (by omega)
      have e : sX3_valueOf N S.2.2 (nI w) S = _ := this
      simp only [sX9_account, gq_bs, gq_B_eq, gq_B_ne, gq_B_gB, Bool.not_true, Bool.not_false, Bool.true_and, Bool.false_and, Bool.and_true, Bool.and_false, cond_true, cond_false, gh_isBin9, gh_isKind9, gh_isFarmer9, gh_within, gh_inR, gh_isBin10, gh_isKind10, Int32.toInt_toInt64, Int32.reduceToInt, Int64.reduceToInt, decide_true, decide_false, c1, show gh_cmp .eq (nI 1) 0 = false from rfl, show gh_cmp .eq (nI 1) 1 = true from rfl, e]
    · rw [show gh_cmp .ne (nI 1) 0 = true from rfl, cond_true, show gh_cmp .ne (nI 1) 1 = false from rfl, cond_false, (hvs i hi).2, gq_bs]
      unfold sX10_account_84 sX10_account_86
      rw [nI_1]
  · obtain ⟨c', d1, d2, d3⟩ := gl_coC (S := S) N hL hw n 0 N 0 (by omega) (by omega) (by omega)
    refine ⟨lN c', ?_, ?_⟩
    · have e : sX3_countOf N (nI w) S = some (nI c', S) := d2
      simp only [sX9_account, gq_bs, gq_B_eq, gq_B_ne, gq_B_gB, Bool.not_true, Bool.not_false, Bool.true_and, Bool.false_and, Bool.and_true, Bool.and_false, cond_true, cond_false, gh_isBin9, gh_isKind9, gh_isFarmer9, gh_within, gh_inR, gh_isBin10, gh_isKind10, Int32.toInt_toInt64, Int32.reduceToInt, Int64.reduceToInt, decide_true, decide_false, c1, show gh_cmp .eq (nI 2) 0 = false from rfl, show gh_cmp .eq (nI 2) 1 = false from rfl, show gh_cmp .eq (nI 2) 2 = true from rfl, e]
      rw [nI_l (by omega)]
    · rw [← d3]
      refine gl_acR (f := fun _ => 1) N hL hw (fun i fu x hi => ?_) n 0 N 0 (by omega) (by omega)
      rw [show gh_cmp .ne (nI 2) 0 = true from rfl, cond_true, show gh_cmp .ne (nI 2) 1 = true from rfl, cond_true]
      unfold sX10_account_84 sX10_account_86
      rw [nI_1]
end GlWo
