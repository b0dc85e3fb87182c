/-! ===== LIST: clauses, purely ===== -/
abbrev gl_PP : Type := (Nat → Option Nat) × Nat × (Nat → Nat) × (Nat → Nat)
section GlPure
variable (n : Nat) (bs : Nat → Nat)
def gl_val (a : Nat) : Nat := gl_vC bs (gl_e n bs a - gl_s n bs a) (gl_s n bs a) 0
def gl_wda (a : Nat) : Nat := gl_wd bs (gl_s n bs a) (gl_e n bs a)
def gl_tw (P : gl_PP) (dk : Bool) (v : Nat) : Bool := bif dk then (List.range P.2.1).any (fun i => Nat.beq (P.2.2.1 i) v) else (Nat.ble v 3 && (P.1 v).isSome)
def gl_f0 (a : Nat) (P : gl_PP) : Nat := if gl_k n bs a = 2 ∧ gl_wda n bs a = 1 then (if P.2.1 < 8 then 0 else 4) else if gl_k n bs a = 2 ∧ gl_wda n bs a = 0 then 0 else 1
def gl_f1 (a : Nat) (dk : Bool) (P : gl_PP) : Nat := if gl_k n bs a = 3 then (if gl_tw P dk (gl_val n bs a) = true then 2 else if gl_val n bs a ≤ (bif dk then 400 else 3) then 0 else 3) else 1
def gl_f2 (a : Nat) (dk : Bool) : Nat := if gl_k n bs a = 3 then (if (bif dk then 1 else 0) ≤ gl_val n bs a ∧ gl_val n bs a ≤ (bif dk then 50 else 9999) then 0 else 3) else 1
def gl_f3 (a : Nat) : Nat := if gl_k n bs a = 4 then 0 else 1
def gl_add (P : gl_PP) (dk : Bool) (f v : Nat) : gl_PP := bif dk then (P.1, P.2.1 + 1, gh_nu P.2.2.1 P.2.1 f, gh_nu P.2.2.2 P.2.1 v) else (gh_nu P.1 f (some v), P.2.1, P.2.2.1, P.2.2.2)
/-- a clause that begins at a: its fault and place, or where the next begins and the list then -/
def gl_clause (a : Nat) (P : gl_PP) : Sum (Nat × Nat) (Nat × gl_PP) :=
  if gl_f0 n bs a P ≠ 0 then .inl (gl_f0 n bs a P, gl_s n bs a)
  else if gl_f1 n bs (gl_e n bs a) (Nat.beq (gl_wda n bs a) 1) P ≠ 0 then .inl (gl_f1 n bs (gl_e n bs a) (Nat.beq (gl_wda n bs a) 1) P, gl_s n bs (gl_e n bs a))
  else if gl_f2 n bs (gl_e n bs (gl_e n bs a)) (Nat.beq (gl_wda n bs a) 1) ≠ 0 then .inl (gl_f2 n bs (gl_e n bs (gl_e n bs a)) (Nat.beq (gl_wda n bs a) 1), gl_s n bs (gl_e n bs (gl_e n bs a)))
  else if gl_f3 n bs (gl_e n bs (gl_e n bs (gl_e n bs a))) ≠ 0 then .inl (gl_f3 n bs (gl_e n bs (gl_e n bs (gl_e n bs a))), gl_s n bs (gl_e n bs (gl_e n bs (gl_e n bs a))))
  else .inr (gl_e n bs (gl_e n bs (gl_e n bs (gl_e n bs a))), gl_add P (Nat.beq (gl_wda n bs a) 1) (gl_val n bs (gl_e n bs a)) (gl_val n bs (gl_e n bs (gl_e n bs a))))
def gl_parse : Nat → Nat → Nat → gl_PP → Sum (Nat × Nat) (Nat × gl_PP)
  | 0, _, _, _ => .inl (0, 0)
  | k + 1, a, c, P => if gl_k n bs a = 0 then .inr (c, P) else match gl_clause n bs a P with
    | .inl x => .inl x
    | .inr (a', P') => gl_parse k a' (c + 1) P'
end GlPure
section GlPure2
variable {n : Nat} {bs : Nat → Nat}
theorem gl_e_gt {a : Nat} (h : gl_k n bs a ≠ 0) (ha : a ≤ n) : a < gl_e n bs a ∧ gl_e n bs a ≤ n := by
  have hs := gl_run_le gl_spc bs (n - a) a
  have hs' : a ≤ gl_s n bs a ∧ gl_s n bs a ≤ a + (n - a) := hs
  have h0 : ¬ n ≤ gl_s n bs a := fun w => h (by unfold gl_k; rw [if_pos w])
  unfold gl_e
  rw [if_neg h0]
  by_cases c1 : gl_let (bs (gl_s n bs a)) = true
  · rw [if_pos c1]
    have h1 := gl_run_s (p := gl_let) (bs := bs) (k := n - gl_s n bs a) (a := gl_s n bs a) (by omega) c1
    have h2 := (gl_run_le gl_let bs (n - gl_s n bs a) (gl_s n bs a)).2
    omega
  · rw [if_neg c1]
    by_cases c2 : gl_dig (bs (gl_s n bs a)) = true
    · rw [if_pos c2]
      have h1 := gl_run_s (p := gl_dig) (bs := bs) (k := n - gl_s n bs a) (a := gl_s n bs a) (by omega) c2
      have h2 := (gl_run_le gl_dig bs (n - gl_s n bs a) (gl_s n bs a)).2
      omega
    · rw [if_neg c2]
      omega
theorem gl_s_le {a : Nat} (ha : a ≤ n) : a ≤ gl_s n bs a ∧ gl_s n bs a ≤ n := by
  have hs : a ≤ gl_s n bs a ∧ gl_s n bs a ≤ a + (n - a) := gl_run_le gl_spc bs (n - a) a
  omega
theorem gl_k_le {a : Nat} : gl_k n bs a ≤ 4 := by
  unfold gl_k
  split
  · omega
  · split
    · omega
    · split
      · omega
      · split <;> omega
theorem gl_vals {a : Nat} (h3 : gl_k n bs a = 3) : gl_eqv (gl_val n bs a) (gl_vR bs (gl_e n bs a - gl_s n bs a) (gl_s n bs a) 0) ∧ gl_val n bs a ≤ 1000000 ∧ gl_vR bs (gl_e n bs a - gl_s n bs a) (gl_s n bs a) 0 ≤ 1000000 := by
  refine gl_vrel _ _ 0 0 (fun i h1 h2 => ?_) (Or.inl ⟨rfl, by omega⟩) (by omega) (by omega)
  unfold gl_k at h3
  have h0 : ¬ n ≤ gl_s n bs a := fun w => by rw [if_pos w] at h3; omega
  rw [if_neg h0] at h3
  have c1 : ¬ gl_let (bs (gl_s n bs a)) = true := fun w => by rw [if_pos w] at h3; omega
  rw [if_neg c1] at h3
  have c2 : gl_dig (bs (gl_s n bs a)) = true := Classical.byContradiction fun w => by
    rw [if_neg w] at h3
    split at h3 <;> omega
  have he : gl_e n bs a = gl_run gl_dig bs (n - gl_s n bs a) (gl_s n bs a) := by
    unfold gl_e
    rw [if_neg h0, if_neg c1, if_pos c2]
  have hle := (gl_run_le gl_dig bs (n - gl_s n bs a) (gl_s n bs a)).1
  rw [he] at h2
  exact gl_run_in gl_dig bs (n - gl_s n bs a) (gl_s n bs a) i h1 (by omega)
end GlPure2
theorem gl_pl (b : Bool) : gh_pl b = 46 ∨ gh_pl b = 51 := by cases b <;> simp [gh_pl]
/-- a list, as the class keeps it -/
def gl_LC (S : gh_St) (b : Bool) (P : gl_PP) : Prop := S.1 (gh_pl b) 4 = nI P.2.1 ∧ P.2.1 ≤ 8 ∧ (∀ k, k < 4 → S.1 (gh_pl b + 1) k = nI ((P.1 k).getD 0) ∧ S.1 (gh_pl b + 2) k = gq_B (P.1 k).isSome ∧ (P.1 k).getD 0 ≤ 9999) ∧ ∀ i, i < P.2.1 → S.1 (gh_pl b + 3) i = nI (P.2.2.1 i) ∧ S.1 (gh_pl b + 4) i = nI (P.2.2.2 i) ∧ P.2.2.1 i ≤ 400 ∧ P.2.2.2 i ≤ 50
theorem gl_LC_45 {S : gh_St} {b : Bool} {P : gl_PP} (h : gl_LC S b P) {k : Nat} {x : Int32} : gl_LC (gh_fI S 45 k x) b P := by
  have hp := gl_pl b
  refine ⟨by rw [gh_fI_1, if_neg (by omega)]; exact h.1, h.2.1, fun j hj => ?_, fun i hi => ?_⟩
  · rw [gh_fI_1, if_neg (by omega), gh_fI_1, if_neg (by omega)]
    exact h.2.2.1 j hj
  · rw [gh_fI_1, if_neg (by omega), gh_fI_1, if_neg (by omega)]
    exact h.2.2.2 i hi
theorem gl_LC_fr {S S' : gh_St} {b : Bool} {P : gl_PP} (h : gl_LC S b P) (hf : gh_fr gl_CN S S') : gl_LC S' b P := by
  have hp := gl_pl b
  have e : ∀ j k, S'.1 (gh_pl b + j) k = S.1 (gh_pl b + j) k := fun j k => hf.1 _ _ (gf_bf (fun w => by
    unfold gl_CN at w
    simp only [Bool.and_eq_true, Nat.beq_eq] at w
    omega))
  have e0 := e 0 4
  rw [Nat.add_zero] at e0
  refine ⟨e0.trans h.1, h.2.1, fun j hj => ?_, fun i hi => ?_⟩
  · rw [e, e]
    exact h.2.2.1 j hj
  · rw [e, e]
    exact h.2.2.2 i hi
/-! ===== LIST: the class's reader ===== -/
def gl_ch (wb : Bool) (i : Nat) : Nat := (bif wb then [112, 114, 105, 99, 101] else [100, 111, 99, 107]).getD i 0
theorem gl_ch_t : ∀ i, i < 5 → gh_ch true (nI i) = some (nI (gl_ch true i)) := by decide
theorem gl_ch_f : ∀ i, i < 4 → gh_ch false (nI i) = some (nI (gl_ch false i)) := by decide
theorem gl_ch_lt : ∀ wb : Bool, ∀ i, i < 5 → gl_ch wb i < 256 := by decide
section GlRd
variable {n : Nat} {bs : Nat → Nat} (N : Nat)
theorem gl_iw_step {S : gh_St} {wb : Bool} {s i fu : Nat} (hb : ∀ k, bs k < 256) (hW : gt_W S n bs) (h4 : S.1 45 4 = nI s) (hi : i < (bif wb then 5 else 4)) (hs : s + i < 200) : sX6_isWord_28 N wb (fu + 1) (nI i) S = bif decide (bs (s + i) = gl_ch wb i) then sX6_isWord_28 N wb fu (nI (i + 1)) S else some (0, S) := by
  have hbs := hb (s + i)
  have hi5 : i < 5 := by cases wb <;> simp at hi <;> omega
  have hcl := gl_ch_lt wb i hi5
  have hc : gh_ch wb (nI i) = some (nI (gl_ch wb i)) := by
    cases wb with
    | true => exact gl_ch_t i hi
    | false => exact gl_ch_f i hi
  have hge : gh_cmp .ge (nI i) (gh_wl wb) = false := by
    cases wb with
    | true =>
      rw [show gh_cmp .ge (nI i) (gh_wl true) = decide (5 ≤ i) from gh_n_ge (b := 5) (by omega) (by omega)]
      simp at hi
      exact decide_eq_false (by omega)
    | false =>
      rw [show gh_cmp .ge (nI i) (gh_wl false) = decide (4 ≤ i) from gh_n_ge (b := 4) (by omega) (by omega)]
      simp at hi
      exact decide_eq_false (by omega)
  rw [sX6_isWord_28, hge, cond_false, h4, nI_add, gh_ra_n hs (by decide), gq_bs, hW.2 _ hs, hc, gq_bs, gh_n_eq (by omega) (by omega), nI_1]
theorem gl_isWord (hN : 100 ≤ N) (wb : Bool) {S : gh_St} {a : Nat} (hn : n ≤ 200) (ha : a ≤ n) (hb : ∀ k, bs k < 256) (hW : gt_W S n bs) (h3 : S.1 45 3 = nI (gl_e n bs a)) (h4 : S.1 45 4 = nI (gl_s n bs a)) (h5 : S.1 45 5 = nI (gl_k n bs a)) : sX6_isWord N wb S = some (gq_B (decide (gl_k n bs a = 2 ∧ gl_wda n bs a = (bif wb then 0 else 1))), S) := by
  obtain ⟨N', rfl⟩ : ∃ q, N = q + 6 := ⟨N - 6, by omega⟩
  have hk := gl_k_le (n := n) (bs := bs) (a := a)
  have hs := gl_s_le (n := n) (bs := bs) ha
  unfold sX6_isWord gl_wda
  rw [h5, show gh_cmp .ne (nI (gl_k n bs a)) 2 = decide (gl_k n bs a ≠ 2) from gh_n_ne (b := 2) (by omega) (by omega)]
  by_cases c2 : gl_k n bs a = 2
  case neg =>
    rw [decide_eq_true c2, cond_true, decide_eq_false (fun w => c2 w.1)]
    rfl
  have he := gl_e_gt (n := n) (bs := bs) (a := a) (by omega) ha
  have hse : gl_s n bs a ≤ gl_e n bs a := by
    unfold gl_e
    split
    · exact Nat.le_refl _
    · split
      · exact (gl_run_le _ _ _ _).1
      · split
        · exact (gl_run_le _ _ _ _).1
        · omega
  rw [decide_eq_false (not_not_intro c2), cond_false, h3, h4, pk_sub hse]
  generalize gl_e n bs a = e at he hse h3 ⊢
  generalize gl_s n bs a = s at hs hse h4 ⊢
  cases wb with
  | false =>
    have hst := fun i fu (hi : i < 4) (hx : s + i < 200) => gl_iw_step (n := n) (bs := bs) (N' + 6) (wb := false) (i := i) (fu := fu) hb hW h4 hi hx
    rw [show gh_cmp .eq (nI (e - s)) (gh_wl false) = decide (e - s = 4) from gh_n_eq (b := 4) (by omega) (by omega)]
    by_cases c4 : e - s = 4
    · rw [decide_eq_true c4, cond_true, show (0 : Int32) = nI 0 from rfl, hst 0 (N' + 5) (by omega) (by omega), hst 1 (N' + 4) (by omega) (by omega), hst 2 (N' + 3) (by omega) (by omega), hst 3 (N' + 2) (by omega) (by omega), show sX6_isWord_28 (N' + 6) false (N' + 2) (nI (3 + 1)) S = some (1, S) from by rw [sX6_isWord_28]; rfl]
      show (bif decide (bs (s + 0) = 100) then bif decide (bs (s + 1) = 111) then bif decide (bs (s + 2) = 99) then bif decide (bs (s + 3) = 107) then some (1, S) else some (nI 0, S) else some (nI 0, S) else some (nI 0, S) else some (nI 0, S)) = _
      have hwd : (gl_wd bs s e = 1) ↔ (bs s = 100 ∧ bs (s + 1) = 111 ∧ bs (s + 2) = 99 ∧ bs (s + 3) = 107) := by
        unfold gl_wd
        rw [if_neg (fun w => by omega)]
        constructor
        · intro h
          by_cases q : e - s = 4 ∧ bs s = 100 ∧ bs (s + 1) = 111 ∧ bs (s + 2) = 99 ∧ bs (s + 3) = 107
          · exact q.2
          · rw [if_neg q] at h
            omega
        · intro h
          rw [if_pos ⟨c4, h⟩]
      have hdd : decide (gl_k n bs a = 2 ∧ gl_wd bs s e = bif false then 0 else 1) = decide (bs s = 100 ∧ bs (s + 1) = 111 ∧ bs (s + 2) = 99 ∧ bs (s + 3) = 107) := decide_eq_decide.mpr ⟨fun w => hwd.mp w.2, fun w => ⟨c2, hwd.mpr w⟩⟩
      rw [Nat.add_zero, hdd]
      by_cases q0 : bs s = 100 <;> by_cases q1 : bs (s + 1) = 111 <;> by_cases q2 : bs (s + 2) = 99 <;> by_cases q3 : bs (s + 3) = 107 <;> simp [q0, q1, q2, q3] <;> rfl
    · rw [decide_eq_false c4, cond_false, decide_eq_false (fun w => by
        have h := w.2
        unfold gl_wd at h
        split at h
        · simp at h
        · rw [if_neg (fun v => c4 v.1)] at h
          simp at h)]
      rfl
  | true =>
    have hst := fun i fu (hi : i < 5) (hx : s + i < 200) => gl_iw_step (n := n) (bs := bs) (N' + 6) (wb := true) (i := i) (fu := fu) hb hW h4 hi hx
    rw [show gh_cmp .eq (nI (e - s)) (gh_wl true) = decide (e - s = 5) from gh_n_eq (b := 5) (by omega) (by omega)]
    by_cases c5 : e - s = 5
    · rw [decide_eq_true c5, cond_true, show (0 : Int32) = nI 0 from rfl, hst 0 (N' + 5) (by omega) (by omega), hst 1 (N' + 4) (by omega) (by omega), hst 2 (N' + 3) (by omega) (by omega), hst 3 (N' + 2) (by omega) (by omega), hst 4 (N' + 1) (by omega) (by omega), show sX6_isWord_28 (N' + 6) true (N' + 1) (nI (4 + 1)) S = some (1, S) from by rw [sX6_isWord_28]; rfl]
      show (bif decide (bs (s + 0) = 112) then bif decide (bs (s + 1) = 114) then bif decide (bs (s + 2) = 105) then bif decide (bs (s + 3) = 99) then bif decide (bs (s + 4) = 101) then some (1, S) else some (nI 0, S) else some (nI 0, S) else some (nI 0, S) else some (nI 0, S) else some (nI 0, S)) = _
      have hwd : (gl_wd bs s e = 0) ↔ (bs s = 112 ∧ bs (s + 1) = 114 ∧ bs (s + 2) = 105 ∧ bs (s + 3) = 99 ∧ bs (s + 4) = 101) := by
        unfold gl_wd
        constructor
        · intro h
          by_cases q : e - s = 5 ∧ bs s = 112 ∧ bs (s + 1) = 114 ∧ bs (s + 2) = 105 ∧ bs (s + 3) = 99 ∧ bs (s + 4) = 101
          · exact q.2
          · rw [if_neg q] at h
            split at h <;> omega
        · intro h
          rw [if_pos ⟨c5, h⟩]
      have hdd : decide (gl_k n bs a = 2 ∧ gl_wd bs s e = bif true then 0 else 1) = decide (bs s = 112 ∧ bs (s + 1) = 114 ∧ bs (s + 2) = 105 ∧ bs (s + 3) = 99 ∧ bs (s + 4) = 101) := decide_eq_decide.mpr ⟨fun w => hwd.mp w.2, fun w => ⟨c2, hwd.mpr w⟩⟩
      rw [Nat.add_zero, hdd]
      by_cases q0 : bs s = 112 <;> by_cases q1 : bs (s + 1) = 114 <;> by_cases q2 : bs (s + 2) = 105 <;> by_cases q3 : bs (s + 3) = 99 <;> by_cases q4 : bs (s + 4) = 101 <;> simp [q0, q1, q2, q3, q4] <;> rfl
    · rw [decide_eq_false c5, cond_false, decide_eq_false (fun w => by
        have h := w.2
        unfold gl_wd at h
        rw [if_neg (fun v => c5 v.1)] at h
        split at h <;> simp at h)]
      rfl
end GlRd
