/-! ===== LIST: the class's clauses ===== -/
def gl_CK (b : Bool) (c _k : Nat) : Bool := Nat.beq c 45 || (Nat.ble (gh_pl b) c && Nat.ble c (gh_pl b + 4))
theorem gl_CK_CN (b : Bool) : ∀ c k, gl_CN c k = true → gl_CK b c k = true := by
  intro c k h
  unfold gl_CN at h
  unfold gl_CK
  simp only [Bool.and_eq_true] at h
  rw [h.1]
  rfl
theorem gl_CK_45 (b : Bool) (k : Nat) : gl_CK b 45 k = true := rfl
theorem gl_CK_pl (b : Bool) {j : Nat} (hj : j ≤ 4) (k : Nat) : gl_CK b (gh_pl b + j) k = true := by
  unfold gl_CK
  rw [Nat.ble_eq.mpr (show gh_pl b ≤ gh_pl b + j by omega), Nat.ble_eq.mpr (show gh_pl b + j ≤ gh_pl b + 4 by omega)]
  simp
def gl_CS (S : gh_St) (n : Nat) (bs : Nat → Nat) (a stp cl : Nat) (b : Bool) (P : gl_PP) (dk : Bool) (f : Nat) : Prop :=
  gt_W S n bs ∧ S.1 45 3 = nI a ∧ S.1 45 7 = nI stp ∧ S.1 45 10 = nI cl ∧ S.1 45 0 = 1 ∧ S.1 45 1 = 0 ∧ S.1 45 2 = -1 ∧ gl_LC S b P ∧ (1 ≤ stp → S.1 45 8 = gq_B dk) ∧ (2 ≤ stp → S.1 45 9 = nI f)
/-- a token read in that state -/
def gl_CT2 (S : gh_St) (n : Nat) (bs : Nat → Nat) (a stp cl : Nat) (b : Bool) (P : gl_PP) (dk : Bool) (f : Nat) : Prop :=
  gl_CS S n bs (gl_e n bs a) stp cl b P dk f ∧ S.1 45 4 = nI (gl_s n bs a) ∧ S.1 45 5 = nI (gl_k n bs a) ∧ (gl_k n bs a = 3 → S.1 45 6 = nI (gl_val n bs a))
section GlCl
variable {n : Nat} {bs : Nat → Nat} {b : Bool} {P : gl_PP} {dk : Bool} {f cl stp : Nat} (N : Nat)
theorem gl_turn0 (hN : 300 ≤ N) (hn : n ≤ 200) (hb : ∀ k, bs k < 256) {S : gh_St} {a : Nat} (ha : a ≤ n) (hS : gl_CS S n bs a stp cl b P dk f) : ∃ S', sX6_next N S = some S' ∧ gl_CT2 S' n bs a stp cl b P dk f ∧ gh_fr (gl_CK b) S S' := by
  obtain ⟨s1, s2, s3, s4, s5, s6, s7, s8, s9, s10⟩ := hS
  obtain ⟨S', a1, a2, a3, a4, a5, a6⟩ := gl_nextC (n := n) (bs := bs) N hN hn hb ha s1 s2
  refine ⟨S', a1, ⟨⟨⟨(a6.1 43 1 rfl).trans s1.1, fun k hk => (a6.1 44 k rfl).trans (s1.2 k hk)⟩, a2, (a6.1 45 7 rfl).trans s3, (a6.1 45 10 rfl).trans s4, (a6.1 45 0 rfl).trans s5, (a6.1 45 1 rfl).trans s6, (a6.1 45 2 rfl).trans s7, gl_LC_fr s8 a6, fun h => (a6.1 45 8 rfl).trans (s9 h), fun h => (a6.1 45 9 rfl).trans (s10 h)⟩, a3, a4, a5⟩, gh_fr_mono a6 (gl_CK_CN b)⟩
theorem gl_isFull {S : gh_St} (h : gl_LC S b P) : sX5_isFull N b S = some (gq_B (decide (¬ P.2.1 < 8)), S) := by
  have h8 := h.2.1
  unfold sX5_isFull
  rw [h.1, show gh_cmp .lt (nI P.2.1) 8 = decide (P.2.1 < 8) from gh_n_lt (b := 8) (by omega) (by omega)]
  by_cases c : P.2.1 < 8
  · rw [decide_eq_true c, cond_true, decide_eq_false (not_not_intro c)]
    rfl
  · rw [decide_eq_false c, cond_false, decide_eq_true c]
    rfl
theorem gl_hasDock2 {S : gh_St} (h : gl_LC S b P) {v : Nat} (hv : v ≤ 1000000) : ∀ (j i fu : Nat), i + j = P.2.1 → j < fu → sX5_hasDock_2 N b fu (nI v) (nI i) S = some (gq_B ((List.range' i j).any (fun i => Nat.beq (P.2.2.1 i) v)), S) := by
  have h8 := h.2.1
  intro j
  induction j with
  | zero =>
    intro i fu hi hfu
    obtain ⟨fu, rfl⟩ : ∃ q, fu = q + 1 := ⟨fu - 1, by omega⟩
    rw [sX5_hasDock_2, h.1, gh_n_ge (by omega) (by omega), decide_eq_true (by omega)]
    rfl
  | succ j ih =>
    intro i fu hi hfu
    obtain ⟨fu, rfl⟩ : ∃ q, fu = q + 1 := ⟨fu - 1, by omega⟩
    obtain ⟨d1, d2, d3, d4⟩ := h.2.2.2 i (by omega)
    rw [sX5_hasDock_2, h.1, gh_n_ge (by omega) (by omega), decide_eq_false (by omega), cond_false, gh_ra_n (by omega) (by decide), gq_bs, d1, gl_n_beq (by omega) (by omega), List.range'_succ, List.any_cons, nI_1]
    cases Nat.beq (P.2.2.1 i) v with
    | true => rfl
    | false =>
      rw [Bool.not_false, cond_true, Bool.false_or]
      exact ih (i + 1) fu (by omega) (by omega)
theorem gl_hasDock (hN : 100 ≤ N) {S : gh_St} (h : gl_LC S b P) {v : Nat} (hv : v ≤ 1000000) : sX5_hasDock N b (nI v) S = some (gq_B (gl_tw P true v), S) := by
  have := gl_hasDock2 (b := b) (P := P) N h hv P.2.1 0 N (by omega) (by have := h.2.1; omega)
  rw [← List.range_eq_range'] at this
  exact this
theorem gl_hasPrice {S : gh_St} (h : gl_LC S b P) {v : Nat} (hv : v ≤ 1000000) : sX5_hasPrice N b (nI v) S = some (gq_B (gl_tw P false v), S) := by
  unfold sX5_hasPrice gl_tw
  have e1 := gl_rgn (c := v) (lo := 0) (hi := 3) (by omega)
  have e1' : gh_rg (nI v).toInt 0 3 = (Nat.ble 0 v && Nat.ble v 3) := e1
  rw [gh_isKind9, gq_bs, e1']
  show (bif gh_cmp .eq (gq_B (Nat.ble 0 v && Nat.ble v 3)) 0 then some (0, S) else (gh_ra S (gh_pl b + 2) 4 (nI v)).bind fun x2 => bif gh_cmp .eq x2 0 then some (0, S) else some (1, S)) = _
  rw [gq_B_eq, show Nat.ble 0 v = true from Nat.ble_eq.mpr (Nat.zero_le _), Bool.true_and]
  cases c : Nat.ble v 3 with
  | false => rfl
  | true =>
    have hv3 := Nat.ble_eq.mp c
    rw [Bool.not_true, cond_false, gh_ra_n (by omega) (by decide), gq_bs, (h.2.2.1 v (by omega)).2.1, gq_B_eq, cond_false, Bool.true_and]
    cases (P.1 v).isSome <;> rfl
theorem gl_51 {S : gh_St} {v lim : Nat} (hv : v ≤ 1000000) (hl : lim ≤ 1000) : sX6_faultOfFirst_51 N b (nI lim) (nI v) S = some (nI (if v ≤ lim then 0 else 3), S) := by
  unfold sX6_faultOfFirst_51
  rw [gh_n_gt (by omega) (by omega)]
  by_cases c : v ≤ lim
  · rw [decide_eq_false (by omega), cond_false, if_pos c]
    rfl
  · rw [decide_eq_true (by omega), cond_true, if_neg c]
    rfl
theorem gl_fh0 (hN : 100 ≤ N) (hn : n ≤ 200) (hb : ∀ k, bs k < 256) {S : gh_St} {a : Nat} (ha : a ≤ n) (h : gl_CT2 S n bs a 0 cl b P dk f) : sX6_faultHere N b S = some (nI (gl_f0 n bs a P), S) := by
  obtain ⟨⟨s1, s2, s3, s4, s5, s6, s7, s8, s9, s10⟩, t1, t2, t3⟩ := h
  have w0 := gl_isWord (n := n) (bs := bs) N hN false hn ha hb s1 s2 t1 t2
  have w1 := gl_isWord (n := n) (bs := bs) N hN true hn ha hb s1 s2 t1 t2
  unfold sX6_faultHere gl_f0
  rw [s3, show gh_cmp .eq (nI 0) 0 = true from rfl, cond_true, w0, gq_bs]
  show (bif gh_cmp .eq (gq_B (decide (gl_k n bs a = 2 ∧ gl_wda n bs a = 1))) 0 then (sX6_isWord N true S).bind fun q3 => bif gh_cmp .eq q3.1 0 then some (1, q3.2) else some (0, q3.2) else (sX5_isFull N b S).bind fun q5 => bif gh_cmp .eq q5.1 0 then some (0, q5.2) else some (4, q5.2)) = _
  rw [gq_B_eq, w1, gl_isFull N s8, gq_bs, gq_bs]
  show (bif !decide (gl_k n bs a = 2 ∧ gl_wda n bs a = 1) then bif gh_cmp .eq (gq_B (decide (gl_k n bs a = 2 ∧ gl_wda n bs a = 0))) 0 then some (1, S) else some (0, S) else bif gh_cmp .eq (gq_B (decide (¬ P.2.1 < 8))) 0 then some (0, S) else some (4, S)) = _
  rw [gq_B_eq, gq_B_eq]
  by_cases c1 : gl_k n bs a = 2 ∧ gl_wda n bs a = 1
  · rw [decide_eq_true c1, Bool.not_true, cond_false, if_pos c1]
    by_cases c8 : P.2.1 < 8
    · rw [decide_eq_false (not_not_intro c8), if_pos c8]
      rfl
    · rw [decide_eq_true c8, if_neg c8]
      rfl
  · rw [decide_eq_false c1, Bool.not_false, cond_true, if_neg c1]
    by_cases c0 : gl_k n bs a = 2 ∧ gl_wda n bs a = 0
    · rw [decide_eq_true c0, if_pos c0]
      rfl
    · rw [decide_eq_false c0, if_neg c0]
      rfl
theorem gl_fh1 (hN : 100 ≤ N) {S : gh_St} {a : Nat} (h : gl_CT2 S n bs a 1 cl b P dk f) : sX6_faultHere N b S = some (nI (gl_f1 n bs a dk P), S) := by
  obtain ⟨⟨s1, s2, s3, s4, s5, s6, s7, s8, s9, s10⟩, t1, t2, t3⟩ := h
  have hk := gl_k_le (n := n) (bs := bs) (a := a)
  unfold sX6_faultHere gl_f1
  rw [s3, show gh_cmp .eq (nI 1) 0 = false from rfl, cond_false, show gh_cmp .eq (nI 1) 1 = true from rfl, cond_true, t2, show gh_cmp .ne (nI (gl_k n bs a)) 3 = decide (gl_k n bs a ≠ 3) from gh_n_ne (b := 3) (by omega) (by omega)]
  by_cases c3 : gl_k n bs a = 3
  case neg =>
    rw [decide_eq_true c3, cond_true, if_neg c3]
    rfl
  have hv := (gl_vals (n := n) (bs := bs) c3).2.1
  have e6 := t3 c3
  have e8 := s9 (Nat.le_refl _)
  rw [decide_eq_false (not_not_intro c3), cond_false, if_pos c3]
  unfold sX6_faultOfFirst
  rw [e8, gq_B_eq, e6]
  cases dk with
  | false =>
    rw [Bool.not_false, cond_true, gl_hasPrice N s8 hv, gq_bs]
    show ((sX6_faultOfFirst_26 N b (gq_B (gl_tw P false (gl_val n bs a))) S).bind fun q9 => some (q9.1, q9.2)) = _
    unfold sX6_faultOfFirst_26
    rw [gq_B_eq, e8, e6]
    cases gl_tw P false (gl_val n bs a) with
    | true => rfl
    | false =>
      rw [Bool.not_false, cond_true, if_neg (by decide), show gh_cmp .eq (gq_B false) 0 = true from rfl, cond_true, show (3 : Int32) = nI 3 from rfl, gl_51 N hv (by omega), gq_bs]
      rfl
  | true =>
    rw [Bool.not_true, cond_false, gl_hasDock N hN s8 hv, gq_bs]
    show ((sX6_faultOfFirst_26 N b (gq_B (gl_tw P true (gl_val n bs a))) S).bind fun q9 => some (q9.1, q9.2)) = _
    unfold sX6_faultOfFirst_26
    rw [gq_B_eq, e8, e6]
    cases gl_tw P true (gl_val n bs a) with
    | true => rfl
    | false =>
      rw [Bool.not_false, cond_true, if_neg (by decide), show gh_cmp .eq (gq_B true) 0 = false from rfl, cond_false, show (400 : Int32) = nI 400 from rfl, gl_51 N hv (by omega), gq_bs]
      rfl
theorem gl_fh2 {S : gh_St} {a : Nat} (h : gl_CT2 S n bs a 2 cl b P dk f) : sX6_faultHere N b S = some (nI (gl_f2 n bs a dk), S) := by
  obtain ⟨⟨s1, s2, s3, s4, s5, s6, s7, s8, s9, s10⟩, t1, t2, t3⟩ := h
  have hk := gl_k_le (n := n) (bs := bs) (a := a)
  unfold sX6_faultHere gl_f2
  rw [s3, show gh_cmp .eq (nI 2) 0 = false from rfl, cond_false, show gh_cmp .eq (nI 2) 1 = false from rfl, cond_false, show gh_cmp .eq (nI 2) 2 = true from rfl, cond_true, t2, show gh_cmp .ne (nI (gl_k n bs a)) 3 = decide (gl_k n bs a ≠ 3) from gh_n_ne (b := 3) (by omega) (by omega)]
  by_cases c3 : gl_k n bs a = 3
  case neg =>
    rw [decide_eq_true c3, cond_true, if_neg c3]
    rfl
  have hv := (gl_vals (n := n) (bs := bs) c3).2.1
  have e6 := t3 c3
  have e8 := s9 (by omega)
  rw [decide_eq_false (not_not_intro c3), cond_false, if_pos c3]
  unfold sX6_faultOfSecond sX6_faultOfSecond_31
  rw [e8, gq_B_eq, e6, gh_within, gh_within, gq_bs, gq_bs]
  have r1 := gl_rgn (c := gl_val n bs a) (lo := 0) (hi := 9999) (by omega)
  have r2 := gl_rgn (c := gl_val n bs a) (lo := 1) (hi := 50) (by omega)
  have r1' : gh_rg (nI (gl_val n bs a)).toInt (Int32.toInt 0) (Int32.toInt 9999) = (Nat.ble 0 (gl_val n bs a) && Nat.ble (gl_val n bs a) 9999) := r1
  have r2' : gh_rg (nI (gl_val n bs a)).toInt (Int32.toInt 1) (Int32.toInt 50) = (Nat.ble 1 (gl_val n bs a) && Nat.ble (gl_val n bs a) 50) := r2
  rw [r1', r2']
  generalize gl_val n bs a = v
  cases dk with
  | false =>
    show ((bif gh_cmp .eq (gq_B (Nat.ble 0 v && Nat.ble v 9999)) 0 then some (3, S) else some (0, S)).bind fun q12 => some (q12.1, q12.2)) = some (nI (if 0 ≤ v ∧ v ≤ 9999 then 0 else 3), S)
    rw [gq_B_eq]
    by_cases c : 0 ≤ v ∧ v ≤ 9999
    · rw [if_pos c, Nat.ble_eq.mpr c.1, Nat.ble_eq.mpr c.2]
      rfl
    · rw [if_neg c, show Nat.ble v 9999 = false from gf_bf (fun w => c ⟨Nat.zero_le _, Nat.ble_eq.mp w⟩), Bool.and_false]
      rfl
  | true =>
    show ((bif gh_cmp .eq (gq_B (Nat.ble 1 v && Nat.ble v 50)) 0 then some (3, S) else some (0, S)).bind fun q12 => some (q12.1, q12.2)) = some (nI (if 1 ≤ v ∧ v ≤ 50 then 0 else 3), S)
    rw [gq_B_eq]
    by_cases c : 1 ≤ v ∧ v ≤ 50
    · rw [if_pos c, Nat.ble_eq.mpr c.1, Nat.ble_eq.mpr c.2]
      rfl
    · rw [if_neg c, show (Nat.ble 1 v && Nat.ble v 50) = false from gf_bf (fun w => by
        rw [Bool.and_eq_true, Nat.ble_eq, Nat.ble_eq] at w
        exact c w)]
      rfl
theorem gl_fh3 {S : gh_St} {a : Nat} (h : gl_CT2 S n bs a 3 cl b P dk f) : sX6_faultHere N b S = some (nI (gl_f3 n bs a), S) := by
  obtain ⟨⟨s1, s2, s3, s4, s5, s6, s7, s8, s9, s10⟩, t1, t2, t3⟩ := h
  have hk := gl_k_le (n := n) (bs := bs) (a := a)
  unfold sX6_faultHere gl_f3
  rw [s3, show gh_cmp .eq (nI 3) 0 = false from rfl, cond_false, show gh_cmp .eq (nI 3) 1 = false from rfl, cond_false, show gh_cmp .eq (nI 3) 2 = false from rfl, cond_false, t2, show gh_cmp .ne (nI (gl_k n bs a)) 4 = decide (gl_k n bs a ≠ 4) from gh_n_ne (b := 4) (by omega) (by omega)]
  by_cases c4 : gl_k n bs a = 4
  · rw [decide_eq_false (not_not_intro c4), if_pos c4]
    rfl
  · rw [decide_eq_true c4, if_neg c4]
    rfl
/-- one turn of the reader -/
theorem gl_turn (hN : 300 ≤ N) (hn : n ≤ 200) (hb : ∀ k, bs k < 256) {S : gh_St} {a t fu fl : Nat} (ha : a ≤ n) (ht : t ≤ n) (hstp : stp ≤ 3) (hS : gl_CS S n bs a stp cl b P dk f) (hne : gl_k n bs a ≠ 0 ∨ stp ≠ 0) (hfl : fl ≤ 4) (hfh : ∀ S1, gl_CT2 S1 n bs a stp cl b P dk f → sX6_faultHere N b S1 = some (nI fl, S1)) : ∃ S1, gl_CT2 S1 n bs a stp cl b P dk f ∧ gh_fr (gl_CK b) S S1 ∧ (fl ≠ 0 → ∃ S', sX6_read_36 N b (fu + 1) (nI t) S = some (-1, S') ∧ S'.1 45 1 = nI fl ∧ S'.1 45 2 = nI (gl_s n bs a) ∧ S'.1 45 0 = 1 ∧ gh_fr (gl_CK b) S S') ∧ (fl = 0 → sX6_read_36 N b (fu + 1) (nI t) S = (sX6_accept N b S1).bind fun q2 => sX6_read_36 N b fu (nI (t + 1)) q2) := by
  obtain ⟨S1, a1, a2, a3⟩ := gl_turn0 N hN hn hb ha hS
  have hk := gl_k_le (n := n) (bs := bs) (a := a)
  have h68 : sX6_read_36 N b (fu + 1) (nI t) S = sX6_read_68 N b (sX6_read_36 N b fu) (nI t) S1 := by
    rw [sX6_read_36, hS.1.1, gh_n_gt (by omega) (by omega), decide_eq_false (by omega), cond_false, a1, gq_bs, a2.2.2.1, a2.1.2.2.1, show gh_cmp .ne (nI (gl_k n bs a)) 0 = decide (gl_k n bs a ≠ 0) from gh_n_ne (b := 0) (by omega) (by omega), show gh_cmp .ne (nI stp) 0 = decide (stp ≠ 0) from gh_n_ne (b := 0) (by omega) (by omega)]
    by_cases c : gl_k n bs a = 0
    · rw [decide_eq_false (not_not_intro c), cond_false, decide_eq_true (hne.resolve_left (fun w => w c)), cond_true]
    · rw [decide_eq_true c, cond_true]
  have e1 : ∀ x : Int32, (gh_fI S1 45 1 x).1 45 1 = x := fun x => by rw [gh_fI_1, if_pos ⟨rfl, rfl⟩]
  have e4 : ∀ x : Int32, (gh_fI S1 45 1 x).1 45 4 = nI (gl_s n bs a) := fun x => by rw [gh_fI_1, if_neg (by omega)]; exact a2.2.1
  have hid : gh_fI S1 45 1 0 = S1 := by
    refine Prod.ext ?_ rfl
    funext c k
    rw [gh_fI_1]
    split
    · rename_i w
      rw [w.1, w.2]
      exact a2.1.2.2.2.2.2.1.symm
    · rfl
  refine ⟨S1, a2, a3, fun h => ?_, fun h => ?_⟩
  · refine ⟨gh_fI (gh_fI S1 45 1 (nI fl)) 45 2 (nI (gl_s n bs a)), ?_, ?_, ?_, ?_, gh_fr_fI (gh_fr_fI a3 rfl) rfl⟩
    · rw [h68, sX6_read_68, hfh S1 a2, gq_bs]
      show (bif gh_cmp .eq ((gh_fI S1 45 1 (nI fl)).1 45 1) 0 then _ else _) = _
      rw [e1, show gh_cmp .eq (nI fl) 0 = decide (fl = 0) from gh_n_eq (b := 0) (by omega) (by omega), decide_eq_false h, cond_false]
      show some ((-1 : Int32), gh_fI (gh_fI S1 45 1 (nI fl)) 45 2 ((gh_fI S1 45 1 (nI fl)).1 45 4)) = _
      rw [e4]
    · rw [gh_fI_1, if_neg (by omega), e1]
    · rw [gh_fI_1, if_pos ⟨rfl, rfl⟩]
    · rw [gh_fI_1, if_neg (by omega), gh_fI_1, if_neg (by omega)]
      exact a2.1.2.2.2.2.1
  · subst h
    rw [h68, sX6_read_68, hfh S1 a2, gq_bs]
    show (bif gh_cmp .eq ((gh_fI S1 45 1 (nI 0)).1 45 1) 0 then (sX6_accept N b (gh_fI S1 45 1 (nI 0))).bind fun q2 => sX6_read_36 N b fu (nI t + 1) q2 else _) = _
    rw [e1, show gh_cmp .eq (nI 0) 0 = true from rfl, cond_true, nI_1, show gh_fI S1 45 1 (nI 0) = S1 from hid]
theorem gl_CS_45 {S : gh_St} {a : Nat} (h : gl_CS S n bs a stp cl b P dk f) {stp' cl' f' : Nat} {dk' : Bool} {S' : gh_St} (hW : gt_W S' n bs) (hL : gl_LC S' b P) (h3 : S'.1 45 3 = S.1 45 3) (h7 : S'.1 45 7 = nI stp') (h10 : S'.1 45 10 = nI cl') (h0 : S'.1 45 0 = S.1 45 0) (h1 : S'.1 45 1 = S.1 45 1) (h2 : S'.1 45 2 = S.1 45 2) (h8 : 1 ≤ stp' → S'.1 45 8 = gq_B dk') (h9 : 2 ≤ stp' → S'.1 45 9 = nI f') : gl_CS S' n bs a stp' cl' b P dk' f' :=
  ⟨hW, h3.trans h.2.1, h7, h10, h0.trans h.2.2.2.2.1, h1.trans h.2.2.2.2.2.1, h2.trans h.2.2.2.2.2.2.1, hL, h8, h9⟩
theorem gl_ac0 (hN : 100 ≤ N) (hn : n ≤ 200) (hb : ∀ k, bs k < 256) {S : gh_St} {a : Nat} (ha : a ≤ n) (h : gl_CT2 S n bs a 0 cl b P dk f) (hf : gl_f0 n bs a P = 0) : ∃ S', sX6_accept N b S = some S' ∧ gl_CS S' n bs (gl_e n bs a) 1 cl b P (Nat.beq (gl_wda n bs a) 1) f ∧ gh_fr (gl_CK b) S S' := by
  have h' := h
  obtain ⟨⟨s1, s2, s3, s4, s5, s6, s7, s8, s9, s10⟩, t1, t2, t3⟩ := h
  have w0 := gl_isWord (n := n) (bs := bs) N hN false hn ha hb s1 s2 t1 t2
  have hk2 : gl_k n bs a = 2 := by
    unfold gl_f0 at hf
    split at hf
    · rename_i c; exact c.1
    · split at hf
      · rename_i c; exact c.1
      · omega
  have e : decide (gl_k n bs a = 2 ∧ gl_wda n bs a = (bif false then 0 else 1)) = Nat.beq (gl_wda n bs a) 1 := by
    cases q : Nat.beq (gl_wda n bs a) 1 with
    | true => exact decide_eq_true ⟨hk2, Nat.eq_of_beq_eq_true q⟩
    | false => exact decide_eq_false (fun w => by
        have : gl_wda n bs a = 1 := w.2
        rw [this] at q
        cases q)
  rw [e] at w0
  refine ⟨gh_fI (gh_fI S 45 8 (gq_B (Nat.beq (gl_wda n bs a) 1))) 45 7 1, ?_, gl_CS_45 h'.1 (gt_W_45 (gt_W_45 s1)) (gl_LC_45 (gl_LC_45 s8)) (by simp [gh_fI_1]) (by simp [gh_fI_1]; rfl) (by simp [gh_fI_1]; exact s4) (by simp [gh_fI_1]) (by simp [gh_fI_1]) (by simp [gh_fI_1]) (fun _ => by simp [gh_fI_1]) (fun w => by omega), gh_fr_fI (gh_fr_fI (gh_fr_refl _ _) rfl) rfl⟩
  unfold sX6_accept
  rw [s3, show gh_cmp .eq (nI 0) 0 = true from rfl, cond_true, w0, gq_bs]
  show ((gh_fZ S 45 8 (gq_B (Nat.beq (gl_wda n bs a) 1))).bind fun S3 => some (gh_fI S3 45 7 1)) = _
  unfold gh_fZ
  rw [gq_B_isB]
  rfl
theorem gl_ac1 {S : gh_St} {a : Nat} (h : gl_CT2 S n bs a 1 cl b P dk f) (hf : gl_f1 n bs a dk P = 0) : ∃ S', sX6_accept N b S = some S' ∧ gl_CS S' n bs (gl_e n bs a) 2 cl b P dk (gl_val n bs a) ∧ gh_fr (gl_CK b) S S' := by
  have h' := h
  obtain ⟨⟨s1, s2, s3, s4, s5, s6, s7, s8, s9, s10⟩, t1, t2, t3⟩ := h
  have hk3 : gl_k n bs a = 3 := by
    unfold gl_f1 at hf
    split at hf
    · rename_i c; exact c
    · omega
  refine ⟨gh_fI (gh_fI S 45 9 (nI (gl_val n bs a))) 45 7 2, ?_, gl_CS_45 h'.1 (gt_W_45 (gt_W_45 s1)) (gl_LC_45 (gl_LC_45 s8)) (by simp [gh_fI_1]) (by simp [gh_fI_1]; rfl) (by simp [gh_fI_1]; exact s4) (by simp [gh_fI_1]) (by simp [gh_fI_1]) (by simp [gh_fI_1]) (fun _ => by simp [gh_fI_1]; exact s9 (Nat.le_refl _)) (fun w => by simp [gh_fI_1]), gh_fr_fI (gh_fr_fI (gh_fr_refl _ _) rfl) rfl⟩
  unfold sX6_accept
  rw [s3, show gh_cmp .eq (nI 1) 0 = false from rfl, cond_false, show gh_cmp .eq (nI 1) 1 = true from rfl, cond_true, t3 hk3]
theorem gl_ac2 {S : gh_St} {a : Nat} (h : gl_CT2 S n bs a 2 cl b P dk f) (hf : gl_f2 n bs a dk = 0) (hf3 : f ≤ (bif dk then 400 else 3)) (hd8 : dk = true → P.2.1 < 8) : ∃ S', sX6_accept N b S = some S' ∧ gl_CS S' n bs (gl_e n bs a) 3 cl b (gl_add P dk f (gl_val n bs a)) dk f ∧ gh_fr (gl_CK b) S S' := by
  have h' := h
  obtain ⟨⟨s1, s2, s3, s4, s5, s6, s7, s8, s9, s10⟩, t1, t2, t3⟩ := h
  have hp := gl_pl b
  have hk3 : gl_k n bs a = 3 := by
    unfold gl_f2 at hf
    split at hf
    · rename_i c; exact c
    · omega
  have hv : (bif dk then 1 else 0) ≤ gl_val n bs a ∧ gl_val n bs a ≤ (bif dk then 50 else 9999) := by
    unfold gl_f2 at hf
    rw [if_pos hk3] at hf
    split at hf
    · rename_i c; exact c
    · omega
  have e8 := s9 (by omega)
  have e9 := s10 (Nat.le_refl _)
  have e6 := t3 hk3
  generalize gl_val n bs a = v at hv e6 ⊢
  have hacc : ∀ S2, sX6_accept_101 N b S2 = some (gh_fI S2 45 7 3) := fun S2 => rfl
  have fin : ∀ (S2 : gh_St) (P' : gl_PP), gt_W S2 n bs → gl_LC S2 b P' → (∀ k, S2.1 45 k = S.1 45 k) → gl_CS (gh_fI S2 45 7 3) n bs (gl_e n bs a) 3 cl b P' dk f := fun S2 P' hW2 hL2 h45 => ⟨gt_W_45 hW2, by rw [gh_fI_1, if_neg (by omega), h45]; exact s2, by rw [gh_fI_1, if_pos ⟨rfl, rfl⟩]; rfl, by rw [gh_fI_1, if_neg (by omega), h45]; exact s4, by rw [gh_fI_1, if_neg (by omega), h45]; exact s5, by rw [gh_fI_1, if_neg (by omega), h45]; exact s6, by rw [gh_fI_1, if_neg (by omega), h45]; exact s7, gl_LC_45 hL2, fun _ => by rw [gh_fI_1, if_neg (by omega), h45]; exact e8, fun _ => by rw [gh_fI_1, if_neg (by omega), h45]; exact e9⟩
  unfold sX6_accept
  rw [s3, show gh_cmp .eq (nI 2) 0 = false from rfl, cond_false, show gh_cmp .eq (nI 2) 1 = false from rfl, cond_false, show gh_cmp .eq (nI 2) 2 = true from rfl, cond_true, e8, gq_B_eq, e9, e6]
  cases dk with
  | false =>
    have hf3 : f ≤ 3 := hf3
    have hv : 0 ≤ v ∧ v ≤ 9999 := hv
    have e1 := gl_rgn (c := f) (lo := 0) (hi := 3) (by omega)
    have e1' : gh_rg (nI f).toInt 0 3 = true := by
      rw [show gh_rg (nI f).toInt 0 3 = (Nat.ble 0 f && Nat.ble f 3) from e1, Nat.ble_eq.mpr (Nat.zero_le _), Nat.ble_eq.mpr hf3]
      rfl
    have hadd : sX5_addPrice N b (nI f) (nI v) S = some (gh_fI (gh_fI S (gh_pl b + 1) f (nI v)) (gh_pl b + 2) f (gq_B true)) := by
      unfold sX5_addPrice
      rw [gh_isKind9, gq_bs, e1']
      show ((gh_wa S (gh_pl b + 1) 4 (nI f) (nI v)).bind fun S2 => (gh_wa S2 (gh_pl b + 2) 4 (nI f) (vp_nar .boolean 1)).bind fun S3 => some S3) = _
      rw [gh_wa_n (by omega) (by decide), gq_bs, gh_wa_n (by omega) (by decide), gq_bs, show vp_nar .boolean (1 : Int32) = gq_B true from gq_B_nar true]
    rw [Bool.not_false, cond_true, hadd, gq_bs, hacc]
    refine ⟨_, rfl, fin _ _ ⟨by rw [gh_fI_1, if_neg (by omega), gh_fI_1, if_neg (by omega)]; exact s1.1, fun k hk => by rw [gh_fI_1, if_neg (by omega), gh_fI_1, if_neg (by omega)]; exact s1.2 k hk⟩ ⟨?_, s8.2.1, fun k hk => ?_, fun i hi => ?_⟩ (fun k => by rw [gh_fI_1, if_neg (by omega), gh_fI_1, if_neg (by omega)]), gh_fr_fI (gh_fr_fI (gh_fr_fI (gh_fr_refl _ _) (gl_CK_pl b (by omega) _)) (gl_CK_pl b (by omega) _)) rfl⟩
    · rw [gh_fI_1, if_neg (by omega), gh_fI_1, if_neg (by omega)]
      exact s8.1
    · obtain ⟨d1, d2, d3⟩ := s8.2.2.1 k hk
      show _ = nI ((gh_nu P.1 f (some v) k).getD 0) ∧ _ = gq_B (gh_nu P.1 f (some v) k).isSome ∧ (gh_nu P.1 f (some v) k).getD 0 ≤ 9999
      rw [gh_fI_1, gh_fI_1, gh_fI_1, gh_fI_1]
      by_cases q : k = f
      · subst q
        rw [gh_nu_s, if_neg (by omega), if_pos ⟨rfl, rfl⟩, if_pos ⟨rfl, rfl⟩]
        exact ⟨rfl, rfl, hv.2⟩
      · rw [gh_nu_n _ _ q, if_neg (by omega), if_neg (by omega), if_neg (by omega), if_neg (by omega)]
        exact ⟨d1, d2, d3⟩
    · show _ = nI (P.2.2.1 i) ∧ _ = nI (P.2.2.2 i) ∧ P.2.2.1 i ≤ 400 ∧ P.2.2.2 i ≤ 50
      rw [gh_fI_1, if_neg (by omega), gh_fI_1, if_neg (by omega), gh_fI_1, if_neg (by omega), gh_fI_1, if_neg (by omega)]
      exact s8.2.2.2 i hi
  | true =>
    have hf3 : f ≤ 400 := hf3
    have hv : 1 ≤ v ∧ v ≤ 50 := hv
    have h8 := hd8 rfl
    have r4 : ∀ (T : gh_St) j x, (gh_fI T (gh_pl b + 3) j x).1 (gh_pl b) 4 = T.1 (gh_pl b) 4 := fun T j x => by rw [gh_fI_1, if_neg (by omega)]
    have r5 : ∀ (T : gh_St) j x, (gh_fI T (gh_pl b + 4) j x).1 (gh_pl b) 4 = T.1 (gh_pl b) 4 := fun T j x => by rw [gh_fI_1, if_neg (by omega)]
    have hadd : sX5_addDock N b (nI f) (nI v) S = some (gh_fI (gh_fI (gh_fI S (gh_pl b + 3) P.2.1 (nI f)) (gh_pl b + 4) P.2.1 (nI v)) (gh_pl b) 4 (nI (P.2.1 + 1))) := by
      unfold sX5_addDock
      rw [gl_isFull N s8, gq_bs, decide_eq_false (not_not_intro h8)]
      show ((gh_wa S (gh_pl b + 3) 8 (S.1 (gh_pl b) 4) (nI f)).bind fun S2 => (gh_wa S2 (gh_pl b + 4) 8 (S2.1 (gh_pl b) 4) (nI v)).bind fun S3 => some (gh_fI S3 (gh_pl b) 4 ((S3.1 (gh_pl b) 4) + 1))) = _
      rw [s8.1, gh_wa_n h8 (by decide), gq_bs, r4, s8.1, gh_wa_n h8 (by decide), gq_bs, r5, r4, s8.1, nI_1]
    rw [Bool.not_true, cond_false, hadd, gq_bs, hacc]
    refine ⟨_, rfl, fin _ _ ⟨by rw [gh_fI_1, if_neg (by omega), gh_fI_1, if_neg (by omega), gh_fI_1, if_neg (by omega)]; exact s1.1, fun k hk => by rw [gh_fI_1, if_neg (by omega), gh_fI_1, if_neg (by omega), gh_fI_1, if_neg (by omega)]; exact s1.2 k hk⟩ ⟨?_, ?_, fun k hk => ?_, fun i hi => ?_⟩ (fun k => by rw [gh_fI_1, if_neg (by omega), gh_fI_1, if_neg (by omega), gh_fI_1, if_neg (by omega)]), gh_fr_fI (gh_fr_fI (gh_fr_fI (gh_fr_fI (gh_fr_refl _ _) (gl_CK_pl b (by omega) _)) (gl_CK_pl b (by omega) _)) (gl_CK_pl b (j := 0) (by omega) _)) rfl⟩
    · rw [gh_fI_1, if_pos ⟨rfl, rfl⟩]
      rfl
    · show P.2.1 + 1 ≤ 8
      omega
    · show _ = nI ((P.1 k).getD 0) ∧ _ = gq_B (P.1 k).isSome ∧ (P.1 k).getD 0 ≤ 9999
      rw [gh_fI_1, if_neg (by omega), gh_fI_1, if_neg (by omega), gh_fI_1, if_neg (by omega), gh_fI_1, if_neg (by omega), gh_fI_1, if_neg (by omega), gh_fI_1, if_neg (by omega)]
      exact s8.2.2.1 k hk
    · have hi : i < P.2.1 + 1 := hi
      show _ = nI (gh_nu P.2.2.1 P.2.1 f i) ∧ _ = nI (gh_nu P.2.2.2 P.2.1 v i) ∧ gh_nu P.2.2.1 P.2.1 f i ≤ 400 ∧ gh_nu P.2.2.2 P.2.1 v i ≤ 50
      have rd3 : (gh_fI (gh_fI (gh_fI S (gh_pl b + 3) P.2.1 (nI f)) (gh_pl b + 4) P.2.1 (nI v)) (gh_pl b) 4 (nI (P.2.1 + 1))).1 (gh_pl b + 3) i = if i = P.2.1 then nI f else S.1 (gh_pl b + 3) i := by
        rw [gh_fI_1, if_neg (by omega), gh_fI_1, if_neg (by omega), gh_fI_1]
        by_cases q : i = P.2.1
        · rw [if_pos ⟨rfl, q⟩, if_pos q]
        · rw [if_neg (fun w => q w.2), if_neg q]
      have rd4 : (gh_fI (gh_fI (gh_fI S (gh_pl b + 3) P.2.1 (nI f)) (gh_pl b + 4) P.2.1 (nI v)) (gh_pl b) 4 (nI (P.2.1 + 1))).1 (gh_pl b + 4) i = if i = P.2.1 then nI v else S.1 (gh_pl b + 4) i := by
        rw [gh_fI_1, if_neg (by omega), gh_fI_1]
        by_cases q : i = P.2.1
        · rw [if_pos ⟨rfl, q⟩, if_pos q]
        · rw [if_neg (fun w => q w.2), if_neg q, gh_fI_1, if_neg (by omega)]
      rw [rd3, rd4]
      by_cases q : i = P.2.1
      · subst q
        rw [gh_nu_s, gh_nu_s, if_pos rfl, if_pos rfl]
        exact ⟨rfl, rfl, hf3, hv.2⟩
      · rw [gh_nu_n _ _ q, gh_nu_n _ _ q, if_neg q, if_neg q]
        exact s8.2.2.2 i (by omega)
theorem gl_ac3 {S : gh_St} {a : Nat} (h : gl_CT2 S n bs a 3 cl b P dk f) : ∃ S', sX6_accept N b S = some S' ∧ gl_CS S' n bs (gl_e n bs a) 0 (cl + 1) b P dk f ∧ gh_fr (gl_CK b) S S' := by
  have h' := h
  obtain ⟨⟨s1, s2, s3, s4, s5, s6, s7, s8, s9, s10⟩, t1, t2, t3⟩ := h
  refine ⟨gh_fI (gh_fI S 45 10 (nI (cl + 1))) 45 7 0, ?_, gl_CS_45 h'.1 (gt_W_45 (gt_W_45 s1)) (gl_LC_45 (gl_LC_45 s8)) (by simp [gh_fI_1]) (by simp [gh_fI_1]; rfl) (by simp [gh_fI_1]) (by simp [gh_fI_1]) (by simp [gh_fI_1]) (by simp [gh_fI_1]) (fun w => by omega) (fun w => by omega), gh_fr_fI (gh_fr_fI (gh_fr_refl _ _) rfl) rfl⟩
  unfold sX6_accept
  rw [s3, show gh_cmp .eq (nI 3) 0 = false from rfl, cond_false, show gh_cmp .eq (nI 3) 1 = false from rfl, cond_false, show gh_cmp .eq (nI 3) 2 = false from rfl, cond_false, s4, nI_1]
end GlCl
