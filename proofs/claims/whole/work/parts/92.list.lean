/-! ===== list ===== -/
section GlLs
variable {n : Nat} {bs : Nat → Nat} {P : gl_PP} (N : Nat)
theorem gl_112 (hN : 300 ≤ N) (hn : n ≤ 200) (hb : ∀ k, bs k < 256) {S : gh_St} {a : Nat} {dk : Bool} (ha : a ≤ n) (h8 : dk = true → P.2.1 < 8) (h : gl_S2 S n bs a P) : ∃ S', sX10_clause_112 N (nI n) (gq_B dk) S = some S' ∧ gh_fr gl_CQ S S' ∧ (gl_k n bs a ≠ 3 → gl_ER S' 1 (gl_s n bs a)) ∧ (gl_k n bs a = 3 → ¬ gl_val n bs a ≤ (bif dk then 400 else 3) → gl_ER S' 3 (gl_s n bs a)) ∧ (gl_k n bs a = 3 → gl_val n bs a ≤ (bif dk then 400 else 3) → (gl_f2 n bs (gl_e n bs a) dk ≠ 0 → gl_ER S' (gl_f2 n bs (gl_e n bs a) dk) (gl_s n bs (gl_e n bs a))) ∧ (gl_f2 n bs (gl_e n bs a) dk = 0 → gl_f3 n bs (gl_e n bs (gl_e n bs a)) ≠ 0 → gl_ER S' (gl_f3 n bs (gl_e n bs (gl_e n bs a))) (gl_s n bs (gl_e n bs (gl_e n bs a)))) ∧ (gl_f2 n bs (gl_e n bs a) dk = 0 → gl_f3 n bs (gl_e n bs (gl_e n bs a)) = 0 → gl_S2 S' n bs (gl_e n bs (gl_e n bs (gl_e n bs a))) (gl_add P dk (gl_val n bs a) (gl_val n bs (gl_e n bs a))))) := by
  have e125 : sX10_clause_112 N (nI n) (gq_B dk) S = sX10_clause_125 N (nI n) (gq_B dk) (nI (bif dk then 400 else 3)) (nI 0) S := by
    unfold sX10_clause_112
    cases dk <;> rfl
  have e145 : ∀ (x : Int32) (T : gh_St), (bif gh_cmp .ne (gq_B dk) 0 then sX10_clause_145 N (nI n) (gq_B dk) x 50 (gq_B dk) T else sX10_clause_145 N (nI n) (gq_B dk) x 9999 (gq_B dk) T) = sX10_clause_145 N (nI n) (gq_B dk) x (nI (bif dk then 50 else 9999)) (gq_B dk) T := fun x T => by cases dk <;> rfl
  obtain ⟨S1, a1, a2, a3, a4⟩ := gl_num (lo := 0) (hi := bif dk then 400 else 3) N hN hn hb ha (by omega) (by cases dk <;> decide) h
  rw [e125]
  unfold sX10_clause_125
  by_cases c3 : gl_k n bs a = 3
  case neg =>
    obtain ⟨b1, b2⟩ := a2 c3
    rw [b1, gq_bs]
    dsimp only
    rw [e145, gl_145E N b2]
    exact ⟨S1, rfl, a1, fun _ => b2, fun h => absurd h c3, fun h => absurd h c3⟩
  by_cases cv : gl_val n bs a ≤ (bif dk then 400 else 3)
  case neg =>
    obtain ⟨b1, b2⟩ := a3 c3 (fun w => cv w.2)
    rw [b1, gq_bs]
    dsimp only
    rw [e145, gl_145E N b2]
    exact ⟨S1, rfl, a1, fun h => absurd c3 h, fun _ _ => b2, fun _ h => absurd h cv⟩
  obtain ⟨b1, b2⟩ := a4 c3 ⟨Nat.zero_le _, cv⟩
  have ge := gl_e_gt (n := n) (bs := bs) (a := a) (by omega) ha
  rw [b1, gq_bs]
  dsimp only
  rw [e145]
  obtain ⟨S2, d1, d2, d3, d4, d5⟩ := gl_145 (dk := dk) (f := gl_val n bs a) N hN hn hb ge.2 cv h8 b2
  exact ⟨S2, d1, gh_fr_trans a1 d2, fun h => absurd c3 h, fun _ h => absurd cv h, fun _ _ => ⟨d3, d4, d5⟩⟩
theorem gl_clR (hN : 300 ≤ N) (hn : n ≤ 200) (hb : ∀ k, bs k < 256) {S : gh_St} {a : Nat} (ha : a ≤ n) (h0 : gl_k n bs a ≠ 0) (h : gl_S2 S n bs a P) : ∃ S', sX10_clause N (nI n) S = some S' ∧ gh_fr gl_CQ S S' ∧ (match gl_clause n bs a P with
    | .inl (f, p) => gl_ER S' f p
    | .inr (a', P') => gl_S2 S' n bs a' P') := by
  have hk := gl_k_le (n := n) (bs := bs) (a := a)
  have hw : gl_wda n bs a ≤ 2 := gl_wd_le bs (gl_s n bs a) (gl_e n bs a)
  obtain ⟨p1, p2, p3, p4, p5⟩ := h
  have hS : gl_S2 S n bs a P := ⟨p1, p2, p3, p4, p5⟩
  have hnd := p5.2.1
  have ge := gl_e_gt (n := n) (bs := bs) h0 ha
  unfold sX10_clause
  rw [p2.2.2.1, gl_sort2 hk hw]
  by_cases cw : gl_k n bs a = 2 ∧ gl_wda n bs a ≠ 2
  case neg =>
    have ef : gl_f0 n bs a P = 1 := by
      unfold gl_f0
      rw [if_neg (fun w => cw ⟨w.1, by omega⟩), if_neg (fun w => cw ⟨w.1, by omega⟩)]
    obtain ⟨S', a1, a2, a3⟩ := gl_errs (f := 1) N p3 p2.2.1 (by omega) (by omega)
    have a1' : sX10_errs N 1 S = some S' := a1
    rw [decide_eq_false cw, cond_false, a1', gq_bs]
    refine ⟨S', rfl, a3, ?_⟩
    unfold gl_clause
    rw [ef, if_pos (by omega)]
    exact a2
  obtain ⟨hk2, hw2⟩ := cw
  have e35 : S.1 56 35 = gq_B (Nat.beq (gl_wda n bs a) 1) := by
    rw [p2.2.2.2.2 hk2]
    have : gl_wda n bs a = 0 ∨ gl_wda n bs a = 1 := by omega
    rcases this with e | e
    · rw [e]; rfl
    · rw [e]; rfl
  have c1 : gh_cmp .ne (gq_B (Nat.beq (gl_wda n bs a) 1)) 1 = !Nat.beq (gl_wda n bs a) 1 := by cases Nat.beq (gl_wda n bs a) 1 <;> rfl
  rw [decide_eq_true ⟨hk2, hw2⟩, cond_true, e35, c1, p5.1, show gh_cmp .ne (nI P.2.1) 8 = decide (P.2.1 ≠ 8) from gh_n_ne (b := 8) (by omega) (by omega)]
  by_cases cf : gl_wda n bs a = 1 ∧ ¬ P.2.1 < 8
  · have ef : gl_f0 n bs a P = 4 := by
      unfold gl_f0
      rw [if_pos ⟨hk2, cf.1⟩, if_neg cf.2]
    obtain ⟨S', a1, a2, a3⟩ := gl_errs (f := 4) N p3 p2.2.1 (by omega) (by omega)
    have a1' : sX10_errs N 4 S = some S' := a1
    rw [cf.1, show Nat.beq 1 1 = true from rfl, Bool.not_true, cond_false, decide_eq_false (by omega), cond_false, a1', gq_bs]
    refine ⟨S', rfl, a3, ?_⟩
    unfold gl_clause
    rw [ef, if_pos (by omega)]
    exact a2
  have ef : gl_f0 n bs a P = 0 := by
    unfold gl_f0
    by_cases e : gl_wda n bs a = 1
    · rw [if_pos ⟨hk2, e⟩, if_pos (Classical.byContradiction fun w => cf ⟨e, w⟩)]
    · rw [if_neg (fun w => e w.2), if_pos ⟨hk2, by omega⟩]
  have h8 : Nat.beq (gl_wda n bs a) 1 = true → P.2.1 < 8 := fun w => Classical.byContradiction fun v => cf ⟨Nat.eq_of_beq_eq_true w, v⟩
  have hcode : (bif !Nat.beq (gl_wda n bs a) 1 then sX10_clause_39 N (nI n) (gq_B (Nat.beq (gl_wda n bs a) 1)) S else bif decide (P.2.1 ≠ 8) then sX10_clause_39 N (nI n) (gq_B (Nat.beq (gl_wda n bs a) 1)) S else (sX10_errs N 4 S).bind fun q1 => some q1) = sX10_clause_39 N (nI n) (gq_B (Nat.beq (gl_wda n bs a) 1)) S := by
    cases e : Nat.beq (gl_wda n bs a) 1 with
    | false => rfl
    | true =>
      have := h8 e
      rw [decide_eq_true (by omega)]
      rfl
  rw [hcode]
  unfold gl_clause
  rw [if_neg (show ¬ gl_f0 n bs a P ≠ 0 by omega)]
  obtain ⟨S1, b1, b2, b3⟩ := gl_nx N hN hn hb ge.2 hS
  generalize Nat.beq (gl_wda n bs a) 1 = dk at h8 ⊢
  generalize gl_e n bs a = a1 at ge b2 ⊢
  have hk1 := gl_k_le (n := n) (bs := bs) (a := a1)
  have hw1 : gl_wda n bs a1 ≤ 2 := gl_wd_le bs (gl_s n bs a1) (gl_e n bs a1)
  obtain ⟨q1, q2, q3, q4, q5⟩ := b2
  have hS1 : gl_S2 S1 n bs a1 P := ⟨q1, q2, q3, q4, q5⟩
  obtain ⟨S2, d1, d2, d3, d4, d5⟩ := gl_112 (dk := dk) N hN hn hb ge.2 h8 hS1
  have e101 : sX10_clause_101 N (nI n) (gq_B dk) S1 = some S2 := d1
  unfold sX10_clause_39
  rw [b1, gq_bs, q2.2.2.1, gl_sort3n hk1 hw1]
  by_cases c3 : gl_k n bs a1 = 3
  case neg =>
    have ef1 : gl_f1 n bs a1 dk P = 1 := by unfold gl_f1; rw [if_neg c3]
    rw [decide_eq_true c3, cond_true, e101]
    refine ⟨S2, rfl, gh_fr_trans b3 d2, ?_⟩
    rw [ef1, if_pos (by omega)]
    exact d3 c3
  obtain ⟨v1, v2, v3⟩ := gl_vals (n := n) (bs := bs) c3
  have f35 := q2.2.2.2.1 c3
  obtain ⟨S3, g1, g2, g3⟩ := gl_errs (f := 2) N q3 q2.2.1 (by omega) (by omega)
  have g1' : sX10_errs N 2 S1 = some S3 := g1
  have e97 : sX10_clause_97 N (nI n) (gq_B dk) S1 = some S3 := by
    unfold sX10_clause_97 sX10_clause_102
    rw [show gh_cmp .eq (1 : Int32) 0 = false from rfl, cond_false, g1', gq_bs, gl_112E N g2]
  -- whether it stands there twice
  have htw : (bif gh_cmp .ne (gq_B dk) 0 then (sX10_wasDock N (S1.1 56 35) S1).bind fun q2 => bif gh_cmp .eq q2.1 0 then sX10_clause_101 N (nI n) (gq_B dk) q2.2 else sX10_clause_97 N (nI n) (gq_B dk) q2.2 else (sX10_in N ((S1.1 56 35 : Int32).toInt64) 0 3 S1).bind fun q4 => bif gh_cmp .eq q4.1 0 then sX10_clause_101 N (nI n) (gq_B dk) q4.2 else (gh_ra q4.2 77 4 (q4.2.1 56 35)).bind fun x5 => bif gh_cmp .lt x5 0 then sX10_clause_101 N (nI n) (gq_B dk) q4.2 else sX10_clause_97 N (nI n) (gq_B dk) q4.2) = bif gl_tw P dk (gl_val n bs a1) then some S3 else some S2 := by
    rw [gq_B_ne, f35]
    generalize gl_vR bs (gl_e n bs a1 - gl_s n bs a1) (gl_s n bs a1) 0 = vr at v1 v3 f35 ⊢
    cases dk with
    | true =>
      have hwd := gl_wasDock4 (P := P) N q5 v3 P.2.1 0 N false (by omega) (by omega)
      rw [Bool.false_or, ← List.range_eq_range', gl_twR q5 v1] at hwd
      have hwd' : sX10_wasDock N (nI vr) S1 = some (gq_B (gl_tw P true (gl_val n bs a1)), S1) := hwd
      rw [cond_true, hwd', gq_bs]
      dsimp only
      rw [gq_B_eq, e101, e97]
      cases gl_tw P true (gl_val n bs a1) <;> rfl
    | false =>
      have r1 := gl_rgn (c := vr) (lo := 0) (hi := 3) (by omega)
      have r1' : gh_rg (nI vr).toInt (Int64.toInt 0) (Int64.toInt 3) = (Nat.ble 0 vr && Nat.ble vr 3) := r1
      rw [cond_false, gh_inR, gq_bs, Int32.toInt_toInt64, r1']
      dsimp only
      rw [gq_B_eq, e101, e97, f35, show Nat.ble 0 vr = true from Nat.ble_eq.mpr (Nat.zero_le _), Bool.true_and]
      have hle : Nat.ble vr 3 = Nat.ble (gl_val n bs a1) 3 := by
        unfold gl_eqv at v1
        cases e : Nat.ble (gl_val n bs a1) 3 with
        | true =>
          have := Nat.ble_eq.mp e
          exact Nat.ble_eq.mpr (by omega)
        | false =>
          refine gf_bf (fun w => ?_)
          have h1 := Nat.ble_eq.mp w
          have h2 : gl_val n bs a1 ≤ 3 := by omega
          rw [Nat.ble_eq.mpr h2] at e
          cases e
      rw [hle]
      show (bif !Nat.ble (gl_val n bs a1) 3 then some S2 else _) = bif (Nat.ble (gl_val n bs a1) 3 && (P.1 (gl_val n bs a1)).isSome) then some S3 else some S2
      cases e : Nat.ble (gl_val n bs a1) 3 with
      | false => rfl
      | true =>
        have hv3 := Nat.ble_eq.mp e
        have hvv : vr = gl_val n bs a1 := by
          unfold gl_eqv at v1
          omega
        rw [hvv, Bool.not_true, cond_false, gh_ra_n (by omega) (by decide), gq_bs, (q5.2.2.1 _ (by omega)).1, Bool.true_and]
        have hpb := (q5.2.2.1 (gl_val n bs a1) (by omega)).2
        cases ep : P.1 (gl_val n bs a1) with
        | none => rfl
        | some y =>
          rw [ep] at hpb
          have hpb : y ≤ 9999 := hpb
          show (bif gh_cmp .lt (nI y) 0 then some S2 else some S3) = some S3
          rw [gb_n0 (by omega)]
          rfl
  rw [decide_eq_false (not_not_intro c3), cond_false]
  rw [htw]
  cases ht : gl_tw P dk (gl_val n bs a1) with
  | true =>
    have ef1 : gl_f1 n bs a1 dk P = 2 := by unfold gl_f1; rw [if_pos c3, if_pos ht]
    refine ⟨S3, rfl, gh_fr_trans b3 g3, ?_⟩
    rw [ef1, if_pos (by omega)]
    exact g2
  | false =>
    refine ⟨S2, rfl, gh_fr_trans b3 d2, ?_⟩
    by_cases cv : gl_val n bs a1 ≤ (bif dk then 400 else 3)
    · have ef1 : gl_f1 n bs a1 dk P = 0 := by
        unfold gl_f1
        rw [if_pos c3, if_neg (by rw [ht]; decide), if_pos cv]
      rw [if_neg (show ¬ gl_f1 n bs a1 dk P ≠ 0 by omega)]
      obtain ⟨x1, x2, x3⟩ := d5 c3 cv
      by_cases y2 : gl_f2 n bs (gl_e n bs a1) dk ≠ 0
      · rw [if_pos y2]
        exact x1 y2
      · rw [if_neg y2]
        have y2' : gl_f2 n bs (gl_e n bs a1) dk = 0 := by omega
        by_cases y3 : gl_f3 n bs (gl_e n bs (gl_e n bs a1)) ≠ 0
        · rw [if_pos y3]
          exact x2 y2' y3
        · rw [if_neg y3]
          exact x3 y2' (by omega)
    · have ef1 : gl_f1 n bs a1 dk P = 3 := by
        unfold gl_f1
        rw [if_pos c3, if_neg (by rw [ht]; decide), if_neg cv]
      rw [ef1, if_pos (by omega)]
      exact d4 c3 cv
theorem gl_clause_e {a : Nat} {a' : Nat} {P' : gl_PP} (ha : a ≤ n) (h : gl_clause n bs a P = .inr (a', P')) : a < a' ∧ a' ≤ n := by
  unfold gl_clause at h
  by_cases c0 : gl_f0 n bs a P ≠ 0
  · rw [if_pos c0] at h
    cases h
  · rw [if_neg c0] at h
    have g0 := gl_e_gt (n := n) (bs := bs) (a := a) (by rw [(gl_f0v (show gl_f0 n bs a P = 0 by omega)).1]; omega) ha
    by_cases c1 : gl_f1 n bs (gl_e n bs a) (Nat.beq (gl_wda n bs a) 1) P ≠ 0
    · rw [if_pos c1] at h
      cases h
    · rw [if_neg c1] at h
      have g1 := gl_e_gt (n := n) (bs := bs) (a := gl_e n bs a) (by rw [(gl_f1v (show gl_f1 n bs (gl_e n bs a) (Nat.beq (gl_wda n bs a) 1) P = 0 by omega)).1]; omega) g0.2
      by_cases c2 : gl_f2 n bs (gl_e n bs (gl_e n bs a)) (Nat.beq (gl_wda n bs a) 1) ≠ 0
      · rw [if_pos c2] at h
        cases h
      · rw [if_neg c2] at h
        have g2 := gl_e_gt (n := n) (bs := bs) (a := gl_e n bs (gl_e n bs a)) (by rw [(gl_f2v (show gl_f2 n bs (gl_e n bs (gl_e n bs a)) (Nat.beq (gl_wda n bs a) 1) = 0 by omega)).1]; omega) g1.2
        by_cases c3 : gl_f3 n bs (gl_e n bs (gl_e n bs (gl_e n bs a))) ≠ 0
        · rw [if_pos c3] at h
          cases h
        · rw [if_neg c3] at h
          have g3 := gl_e_gt (n := n) (bs := bs) (a := gl_e n bs (gl_e n bs (gl_e n bs a))) (by rw [gl_f3v (show gl_f3 n bs (gl_e n bs (gl_e n bs (gl_e n bs a))) = 0 by omega)]; omega) g2.2
          obtain ⟨e1, -⟩ := Prod.mk.inj (Sum.inr.inj h)
          omega
def gl_outR (n : Nat) (S S' : gh_St) (m : Option (Int32 × gh_St)) (N : Nat) (r : Sum (Nat × Nat) (Nat × gl_PP)) : Prop :=
  (match r with
    | .inl (f, p) => ∃ c', m = sX10_list_82 N (nI c') S' ∧ gl_ER S' f p
    | .inr (c, P') => m = sX10_list_82 N (nI c) S' ∧ S'.1 56 36 = 0 ∧ S'.1 56 37 = -1 ∧ gl_LR S' P') ∧ gh_fr gl_CQ S S'
theorem gl_57 (hN : 300 ≤ N) (hn : n ≤ 200) (hb : ∀ k, bs k < 256) : ∀ (k a fu c : Nat) (P : gl_PP) (S : gh_St), n - a < k → n - a + 1 < fu → a ≤ n → gl_S2 S n bs a P → ∃ S', gl_outR n S S' (sX10_list_57 N fu (nI n) (nI c) S) N (gl_parse n bs k a c P) := by
  intro k
  induction k with
  | zero => intro a fu c P S h; omega
  | succ k ih =>
    intro a fu c P S hk hfu ha hS
    obtain ⟨fu, rfl⟩ : ∃ q, fu = q + 1 := ⟨fu - 1, by omega⟩
    have hk4 := gl_k_le (n := n) (bs := bs) (a := a)
    have hw4 : gl_wda n bs a ≤ 2 := gl_wd_le bs (gl_s n bs a) (gl_e n bs a)
    rw [gl_parse, sX10_list_57, hS.2.1.2.2.1, gl_sort0 hk4 hw4]
    by_cases c0 : gl_k n bs a = 0
    · rw [if_pos c0, decide_eq_true c0, cond_true]
      exact ⟨S, ⟨rfl, hS.2.2.1, hS.2.2.2.1, hS.2.2.2.2⟩, gh_fr_refl _ _⟩
    · rw [if_neg c0, decide_eq_false c0, cond_false, hS.2.2.1, show gh_cmp .ne (0 : Int32) 0 = false from rfl, cond_false]
      obtain ⟨S1, a1, a2, a3⟩ := gl_clR N hN hn hb ha c0 hS
      rw [a1, gq_bs, nI_1]
      cases hc : gl_clause n bs a P with
      | inl x =>
        obtain ⟨f, p⟩ := x
        rw [hc] at a3
        have a3 : gl_ER S1 f p := a3
        have h1 := a3.2.2.1
        have h2 := a3.2.2.2
        obtain ⟨fu, rfl⟩ : ∃ q, fu = q + 1 := ⟨fu - 1, by omega⟩
        have e36 : gh_cmp .ne (S1.1 56 36) 0 = true := by
          rw [a3.1, show gh_cmp .ne (nI f) 0 = decide (f ≠ 0) from gh_n_ne (b := 0) (by omega) (by omega)]
          exact decide_eq_true (by omega)
        refine ⟨S1, ⟨c + 1, ?_, a3⟩, a2⟩
        rw [sX10_list_57, e36]
        cases gh_cmp .eq (S1.1 56 34) 0 <;> rfl
      | inr x =>
        obtain ⟨a', P'⟩ := x
        rw [hc] at a3
        have ge := gl_clause_e (n := n) (bs := bs) ha hc
        obtain ⟨S', b1, b2⟩ := ih a' fu (c + 1) P' S1 (by omega) (by omega) ge.2 a3
        exact ⟨S', b1, gh_fr_trans a2 b2⟩
theorem gl_155 {c : Int32} : ∀ (j k fu : Nat) (S : gh_St), k + j = 8 → j < fu → (∀ i, i < k → S.1 81 i = S.1 78 i ∧ S.1 82 i = S.1 79 i) → ∃ S', sX10_list_155 N fu c (nI k) S = some (c, S') ∧ (∀ i, i < 8 → S'.1 81 i = S.1 78 i ∧ S'.1 82 i = S.1 79 i) ∧ gh_fr (fun c _ => Nat.beq c 81 || Nat.beq c 82) S S' := by
  intro j
  induction j with
  | zero =>
    intro k fu S hk hfu hd
    obtain ⟨fu, rfl⟩ : ∃ q, fu = q + 1 := ⟨fu - 1, by omega⟩
    rw [sX10_list_155, show gh_cmp .ge (nI k) 8 = decide (8 ≤ k) from gh_n_ge (b := 8) (by omega) (by omega), decide_eq_true (by omega), cond_true]
    exact ⟨S, rfl, fun i hi => hd i (by omega), gh_fr_refl _ _⟩
  | succ j ih =>
    intro k fu S hk hfu hd
    obtain ⟨fu, rfl⟩ : ∃ q, fu = q + 1 := ⟨fu - 1, by omega⟩
    rw [sX10_list_155, show gh_cmp .ge (nI k) 8 = decide (8 ≤ k) from gh_n_ge (b := 8) (by omega) (by omega), decide_eq_false (by omega), cond_false, gh_ra_n (by omega) (by decide), gq_bs, gh_wa_n (by omega) (by decide), gq_bs, gh_ra_n (by omega) (by decide), gq_bs, gh_wa_n (by omega) (by decide), gq_bs, nI_1]
    rw [show (gh_fI S 81 k (S.1 78 k)).1 79 k = S.1 79 k from by rw [gh_fI_1, if_neg (by omega)]]
    have f1 : gh_fr (fun c _ => Nat.beq c 81 || Nat.beq c 82) S (gh_fI (gh_fI S 81 k (S.1 78 k)) 82 k (S.1 79 k)) := gh_fr_fI (gh_fr_fI (gh_fr_refl _ _) rfl) rfl
    obtain ⟨S', a1, a2, a3⟩ := ih (k + 1) fu (gh_fI (gh_fI S 81 k (S.1 78 k)) 82 k (S.1 79 k)) (by omega) (by omega) (fun i hi => by
      rw [f1.1 78 i rfl, f1.1 79 i rfl]
      simp only [gh_fI_1]
      by_cases e : i = k
      · simp [e]
      · simp [e]
        exact hd i (by omega))
    exact ⟨S', a1, fun i hi => by rw [(a2 i hi).1, (a2 i hi).2, f1.1 78 i rfl, f1.1 79 i rfl]; exact ⟨rfl, rfl⟩, gh_fr_trans f1 a3⟩
theorem gl_109 (hN : 100 ≤ N) {c : Int32} : ∀ (j k fu : Nat) (S : gh_St), k + j = 4 → j < fu → gl_LR S P → (∀ i, i < k → S.1 80 i = nI ((P.1 i).getD 0)) → ∃ S', sX10_list_109 N fu c (nI k) S = some (c, S') ∧ (∀ i, i < 4 → S'.1 80 i = nI ((P.1 i).getD 0)) ∧ S'.1 56 45 = nI P.2.1 ∧ (∀ i, i < P.2.1 → S'.1 81 i = nI (P.2.2.1 i) ∧ S'.1 82 i = nI (P.2.2.2 i)) ∧ gh_fr (fun c k => (Nat.ble 80 c && Nat.ble c 82) || (Nat.beq c 56 && Nat.beq k 45)) S S' := by
  intro j
  induction j with
  | zero =>
    intro k fu S hk hfu hL hd
    obtain ⟨fu, rfl⟩ : ∃ q, fu = q + 1 := ⟨fu - 1, by omega⟩
    have h8 := hL.2.1
    rw [sX10_list_109, show gh_cmp .ge (nI k) 4 = decide (4 ≤ k) from gh_n_ge (b := 4) (by omega) (by omega), decide_eq_true (by omega), cond_true]
    obtain ⟨S', a1, a2, a3⟩ := gl_155 (c := c) N 8 0 N (gh_fI S 56 45 (S.1 56 41)) (by omega) (by omega) (fun i hi => absurd hi (Nat.not_lt_zero _))
    refine ⟨S', a1, fun i hi => ?_, ?_, fun i hi => ?_, ?_⟩
    · rw [a3.1 80 i rfl, gh_fI_1, if_neg (by omega)]
      exact hd i (by omega)
    · rw [a3.1 56 45 rfl, gh_fI_1, if_pos ⟨rfl, rfl⟩]
      exact hL.1
    · rw [(a2 i (by omega)).1, (a2 i (by omega)).2, gh_fI_1, if_neg (by omega), gh_fI_1, if_neg (by omega)]
      exact ⟨(hL.2.2.2 i hi).1, (hL.2.2.2 i hi).2.1⟩
    · exact gh_fr_trans (gh_fr_fI (gh_fr_refl _ _) rfl) (gh_fr_mono a3 (fun c k h => by
        simp only [Bool.or_eq_true, Nat.beq_eq] at h
        simp only [Bool.or_eq_true, Bool.and_eq_true, Nat.beq_eq, Nat.ble_eq]
        omega))
  | succ j ih =>
    intro k fu S hk hfu hL hd
    obtain ⟨fu, rfl⟩ : ∃ q, fu = q + 1 := ⟨fu - 1, by omega⟩
    have hk4 : k < 4 := by omega
    obtain ⟨d1, d2⟩ := hL.2.2.1 k hk4
    rw [sX10_list_109, show gh_cmp .ge (nI k) 4 = decide (4 ≤ k) from gh_n_ge (b := 4) (by omega) (by omega), decide_eq_false (by omega), cond_false, gh_ra_n hk4 (by decide), gq_bs, d1]
    unfold sX10_list_138
    rw [nI_1]
    have go : ∀ x : Int32, x = nI ((P.1 k).getD 0) → ∃ S', ((gh_wa S 80 4 (nI k) x).bind fun S1 => sX10_list_109 N fu c (nI (k + 1)) S1) = some (c, S') ∧ (∀ i, i < 4 → S'.1 80 i = nI ((P.1 i).getD 0)) ∧ S'.1 56 45 = nI P.2.1 ∧ (∀ i, i < P.2.1 → S'.1 81 i = nI (P.2.2.1 i) ∧ S'.1 82 i = nI (P.2.2.2 i)) ∧ gh_fr (fun c k => (Nat.ble 80 c && Nat.ble c 82) || (Nat.beq c 56 && Nat.beq k 45)) S S' := by
      intro x hx
      rw [gh_wa_n hk4 (by decide), gq_bs]
      obtain ⟨S', a1, a2, a3, a4, a5⟩ := ih (k + 1) fu (gh_fI S 80 k x) (by omega) (by omega) ⟨by rw [gh_fI_1, if_neg (by omega)]; exact hL.1, hL.2.1, fun i hi => by rw [gh_fI_1, if_neg (by omega)]; exact hL.2.2.1 i hi, fun i hi => by rw [gh_fI_1, if_neg (by omega), gh_fI_1, if_neg (by omega)]; exact hL.2.2.2 i hi⟩ (fun i hi => by
        rw [gh_fI_1]
        by_cases e : i = k
        · rw [if_pos ⟨rfl, e⟩, e, hx]
        · rw [if_neg (fun w => e w.2)]
          exact hd i (by omega))
      exact ⟨S', a1, a2, a3, a4, gh_fr_trans (gh_fr_fI (gh_fr_refl _ _) rfl) a5⟩
    cases ep : P.1 k with
    | none =>
      rw [ep] at go
      rw [show gh_cmp .ge (gl_np none) 0 = false from rfl, cond_false]
      exact go 0 rfl
    | some y =>
      rw [ep] at go d2
      have d2 : y ≤ 9999 := d2
      rw [show gh_cmp .ge (gl_np (some y)) 0 = decide (0 ≤ y) from gh_n_ge (b := 0) (by omega) (by omega), decide_eq_true (Nat.zero_le _), cond_true, gq_bs]
      exact go (nI y) rfl
theorem gl_34 : ∀ (j k fu : Nat) (S : gh_St) (l1 l2 : Int32), k + j = 4 → j < fu → (∀ i, i < k → S.1 77 i = -1) → ∃ S', sX10_list_34 N fu l1 l2 (nI k) S = ((sX10_next N l1 S').bind fun q1 => sX10_list_57 N N l1 l2 q1) ∧ (∀ i, i < 4 → S'.1 77 i = -1) ∧ gh_fr (fun c _ => Nat.beq c 77) S S' := by
  intro j
  induction j with
  | zero =>
    intro k fu S l1 l2 hk hfu hd
    obtain ⟨fu, rfl⟩ : ∃ q, fu = q + 1 := ⟨fu - 1, by omega⟩
    rw [sX10_list_34, show gh_cmp .ge (nI k) 4 = decide (4 ≤ k) from gh_n_ge (b := 4) (by omega) (by omega), decide_eq_true (by omega), cond_true]
    exact ⟨S, rfl, fun i hi => hd i (by omega), gh_fr_refl _ _⟩
  | succ j ih =>
    intro k fu S l1 l2 hk hfu hd
    obtain ⟨fu, rfl⟩ : ∃ q, fu = q + 1 := ⟨fu - 1, by omega⟩
    rw [sX10_list_34, show gh_cmp .ge (nI k) 4 = decide (4 ≤ k) from gh_n_ge (b := 4) (by omega) (by omega), decide_eq_false (by omega), cond_false, gh_wa_n (by omega) (by decide), gq_bs, nI_1]
    obtain ⟨S', a1, a2, a3⟩ := ih (k + 1) fu (gh_fI S 77 k (-1)) l1 l2 (by omega) (by omega) (fun i hi => by
      rw [gh_fI_1]
      by_cases e : i = k
      · rw [if_pos ⟨rfl, e⟩]
      · rw [if_neg (fun w => e w.2)]
        exact hd i (by omega))
    exact ⟨S', a1, a2, gh_fr_trans (gh_fr_fI (gh_fr_refl _ _) rfl) a3⟩
end GlLs
