/-! ===== LIST: the reference's clauses ===== -/
def gl_np : Option Nat → Int32
  | none => -1
  | some v => nI v
def gl_LR (S : gh_St) (P : gl_PP) : Prop := S.1 56 41 = nI P.2.1 ∧ P.2.1 ≤ 8 ∧ (∀ k, k < 4 → S.1 77 k = gl_np (P.1 k) ∧ (P.1 k).getD 0 ≤ 9999) ∧ ∀ i, i < P.2.1 → S.1 78 i = nI (P.2.2.1 i) ∧ S.1 79 i = nI (P.2.2.2 i) ∧ P.2.2.1 i ≤ 400 ∧ P.2.2.2 i ≤ 50
/-- a token read -/
def gl_TR (S : gh_St) (n : Nat) (bs : Nat → Nat) (a : Nat) : Prop := S.1 56 32 = nI (gl_e n bs a) ∧ S.1 56 33 = nI (gl_s n bs a) ∧ S.1 56 34 = nI (gl_sort (gl_k n bs a) (gl_wda n bs a)) ∧ (gl_k n bs a = 3 → S.1 56 35 = nI (gl_vR bs (gl_e n bs a - gl_s n bs a) (gl_s n bs a) 0)) ∧ (gl_k n bs a = 2 → S.1 56 35 = gl_told (gl_wda n bs a))
def gl_S2 (S : gh_St) (n : Nat) (bs : Nat → Nat) (a : Nat) (P : gl_PP) : Prop := gl_VR S bs ∧ gl_TR S n bs a ∧ S.1 56 36 = 0 ∧ S.1 56 37 = -1 ∧ gl_LR S P
def gl_ER (S : gh_St) (f p : Nat) : Prop := S.1 56 36 = nI f ∧ S.1 56 37 = nI p ∧ 1 ≤ f ∧ f ≤ 4
def gl_CQ (c k : Nat) : Bool := (Nat.ble 77 c && Nat.ble c 79) || (Nat.beq c 56 && ((Nat.ble 32 k && Nat.ble k 37) || Nat.beq k 41))
theorem gl_CQ_CM : ∀ c k, gl_CM c k = true → gl_CQ c k = true := by
  intro c k h
  unfold gl_CM at h
  unfold gl_CQ
  simp only [Bool.or_eq_true, Bool.and_eq_true, Nat.beq_eq, Nat.ble_eq] at h ⊢
  omega
section GlRr
variable {n : Nat} {bs : Nat → Nat} {P : gl_PP} (N : Nat)
theorem gl_LR_fr {S S' : gh_St} (h : gl_LR S P) (hf : gh_fr gl_CM S S') : gl_LR S' P := ⟨(hf.1 56 41 rfl).trans h.1, h.2.1, fun k hk => ⟨(hf.1 77 k rfl).trans (h.2.2.1 k hk).1, (h.2.2.1 k hk).2⟩, fun i hi => ⟨(hf.1 78 i rfl).trans (h.2.2.2 i hi).1, (hf.1 79 i rfl).trans (h.2.2.2 i hi).2.1, (h.2.2.2 i hi).2.2⟩⟩
theorem gl_nx (hN : 300 ≤ N) (hn : n ≤ 200) (hb : ∀ k, bs k < 256) {S : gh_St} {a : Nat} (ha : gl_e n bs a ≤ n) (h : gl_S2 S n bs a P) : ∃ S', sX10_next N (nI n) S = some S' ∧ gl_S2 S' n bs (gl_e n bs a) P ∧ gh_fr gl_CQ S S' := by
  obtain ⟨h1, h2, h3, h4, h5⟩ := h
  obtain ⟨S', a1, a2, a3, a4, a5, a6, a7⟩ := gl_nextR (n := n) (bs := bs) N hN hn hb ha h1 h2.1
  exact ⟨S', a1, ⟨fun k hk => (a7.1 76 k rfl).trans (h1 k hk), ⟨a2, a3, a4, a5, a6⟩, (a7.1 56 36 rfl).trans h3, (a7.1 56 37 rfl).trans h4, gl_LR_fr h5 a7⟩, gh_fr_mono a7 gl_CQ_CM⟩
theorem gl_errs {S : gh_St} {p f : Nat} (h36 : S.1 56 36 = 0) (h33 : S.1 56 33 = nI p) (hf : 1 ≤ f) (hf4 : f ≤ 4) : ∃ S', sX10_errs N (nI f) S = some S' ∧ gl_ER S' f p ∧ gh_fr gl_CQ S S' := by
  refine ⟨gh_fI (gh_fI S 56 36 (nI f)) 56 37 (nI p), ?_, ⟨by rw [gh_fI_1, if_neg (by omega), gh_fI_1, if_pos ⟨rfl, rfl⟩], by rw [gh_fI_1, if_pos ⟨rfl, rfl⟩], hf, hf4⟩, gh_fr_fI (gh_fr_fI (gh_fr_refl _ _) rfl) rfl⟩
  unfold sX10_errs
  rw [h36, show gh_cmp .ne (0 : Int32) 0 = false from rfl, cond_false, show (gh_fI S 56 36 (nI f)).1 56 33 = nI p from by rw [gh_fI_1, if_neg (by omega)]; exact h33]
theorem gl_errsE {S : gh_St} {f p : Nat} (h : gl_ER S f p) (x : Int32) : sX10_errs N x S = some S := by
  have h1 := h.2.2.1
  have h2 := h.2.2.2
  unfold sX10_errs
  rw [h.1, show gh_cmp .ne (nI f) 0 = decide (f ≠ 0) from gh_n_ne (b := 0) (by omega) (by omega), decide_eq_true (by omega)]
  rfl
theorem gl_numE {S : gh_St} {f p : Nat} (h : gl_ER S f p) (x y z : Int32) : sX10_number N x y z S = some (x, S) := by
  have h1 := h.2.2.1
  have h2 := h.2.2.2
  unfold sX10_number sX10_number_15
  rw [h.1, show gh_cmp .gt (nI f) 0 = decide (0 < f) from gh_n_gt (b := 0) (by omega) (by omega), decide_eq_true (by omega), cond_true, gl_errsE N h, gq_bs]
theorem gl_179E {S : gh_St} {f p : Nat} (h : gl_ER S f p) (x y z : Int32) : sX10_clause_179 N x y z S = some S := by
  have h1 := h.2.2.1
  have h2 := h.2.2.2
  have e : gh_cmp .ne (S.1 56 36) 0 = true := by
    rw [h.1, show gh_cmp .ne (nI f) 0 = decide (f ≠ 0) from gh_n_ne (b := 0) (by omega) (by omega)]
    exact decide_eq_true (by omega)
  unfold sX10_clause_179 sX10_clause_202
  rw [e]
  rfl
theorem gl_145E {S : gh_St} {f p : Nat} (h : gl_ER S f p) (l1 l2 l4 t0 t1 : Int32) : sX10_clause_145 N l1 l2 l4 t0 t1 S = some S := by
  have h1 := h.2.2.1
  have h2 := h.2.2.2
  unfold sX10_clause_145
  rw [gl_numE N h, gq_bs]
  show (bif gh_cmp .ne (S.1 56 36) 0 then sX10_clause_174 N l2 l4 t1 S else _) = _
  rw [h.1, show gh_cmp .ne (nI f) 0 = decide (f ≠ 0) from gh_n_ne (b := 0) (by omega) (by omega), decide_eq_true (by omega), cond_true]
  unfold sX10_clause_174
  rw [gl_errsE N h, gq_bs, gl_179E N h]
theorem gl_125E {S : gh_St} {f p : Nat} (h : gl_ER S f p) (l1 l2 t0 t1 : Int32) : sX10_clause_125 N l1 l2 t0 t1 S = some S := by
  unfold sX10_clause_125
  rw [gl_numE N h, gq_bs]
  show (bif gh_cmp .ne l2 0 then sX10_clause_145 N l1 l2 t1 50 l2 S else sX10_clause_145 N l1 l2 t1 9999 l2 S) = _
  rw [gl_145E N h, gl_145E N h]
  cases gh_cmp .ne l2 0 <;> rfl
theorem gl_112E {S : gh_St} {f p : Nat} (h : gl_ER S f p) (l1 l2 : Int32) : sX10_clause_112 N l1 l2 S = some S := by
  unfold sX10_clause_112
  rw [gl_125E N h, gl_125E N h]
  cases gh_cmp .ne l2 0 <;> rfl
theorem gl_sort3 {k w : Nat} (hk : k ≤ 4) (hw : w ≤ 2) : gh_cmp .eq (nI (gl_sort k w)) 2 = decide (k = 3) := by
  have : k = 0 ∨ k = 1 ∨ k = 2 ∨ k = 3 ∨ k = 4 := by omega
  have h2 : w = 0 ∨ w = 1 ∨ w = 2 := by omega
  rcases this with rfl | rfl | rfl | rfl | rfl <;> rcases h2 with rfl | rfl | rfl <;> decide
theorem gl_sort3n {k w : Nat} (hk : k ≤ 4) (hw : w ≤ 2) : gh_cmp .ne (nI (gl_sort k w)) 2 = decide (k ≠ 3) := by
  have : k = 0 ∨ k = 1 ∨ k = 2 ∨ k = 3 ∨ k = 4 := by omega
  have h2 : w = 0 ∨ w = 1 ∨ w = 2 := by omega
  rcases this with rfl | rfl | rfl | rfl | rfl <;> rcases h2 with rfl | rfl | rfl <;> decide
theorem gl_sort4n {k w : Nat} (hk : k ≤ 4) (hw : w ≤ 2) : gh_cmp .ne (nI (gl_sort k w)) 3 = decide (k ≠ 4) := by
  have : k = 0 ∨ k = 1 ∨ k = 2 ∨ k = 3 ∨ k = 4 := by omega
  have h2 : w = 0 ∨ w = 1 ∨ w = 2 := by omega
  rcases this with rfl | rfl | rfl | rfl | rfl <;> rcases h2 with rfl | rfl | rfl <;> decide
theorem gl_sort2 {k w : Nat} (hk : k ≤ 4) (hw : w ≤ 2) : gh_cmp .eq (nI (gl_sort k w)) 1 = decide (k = 2 ∧ w ≠ 2) := by
  have : k = 0 ∨ k = 1 ∨ k = 2 ∨ k = 3 ∨ k = 4 := by omega
  have h2 : w = 0 ∨ w = 1 ∨ w = 2 := by omega
  rcases this with rfl | rfl | rfl | rfl | rfl <;> rcases h2 with rfl | rfl | rfl <;> decide
theorem gl_sort0 {k w : Nat} (hk : k ≤ 4) (hw : w ≤ 2) : gh_cmp .eq (nI (gl_sort k w)) 0 = decide (k = 0) := by
  have : k = 0 ∨ k = 1 ∨ k = 2 ∨ k = 3 ∨ k = 4 := by omega
  have h2 : w = 0 ∨ w = 1 ∨ w = 2 := by omega
  rcases this with rfl | rfl | rfl | rfl | rfl <;> rcases h2 with rfl | rfl | rfl <;> decide
/-- a number between lo and hi is due -/
theorem gl_num (hN : 300 ≤ N) (hn : n ≤ 200) (hb : ∀ k, bs k < 256) {S : gh_St} {a lo hi : Nat} (ha : a ≤ n) (hlo : lo ≤ 1) (hhi : hi ≤ 9999) (h : gl_S2 S n bs a P) : ∃ S', gh_fr gl_CQ S S' ∧ (gl_k n bs a ≠ 3 → sX10_number N (nI lo) (nI hi) (nI n) S = some (nI lo, S') ∧ gl_ER S' 1 (gl_s n bs a)) ∧ (gl_k n bs a = 3 → ¬ (lo ≤ gl_val n bs a ∧ gl_val n bs a ≤ hi) → sX10_number N (nI lo) (nI hi) (nI n) S = some (nI lo, S') ∧ gl_ER S' 3 (gl_s n bs a)) ∧ (gl_k n bs a = 3 → lo ≤ gl_val n bs a ∧ gl_val n bs a ≤ hi → sX10_number N (nI lo) (nI hi) (nI n) S = some (nI (gl_val n bs a), S') ∧ gl_S2 S' n bs (gl_e n bs a) P) := by
  have hk := gl_k_le (n := n) (bs := bs) (a := a)
  have hw : gl_wda n bs a ≤ 2 := gl_wd_le bs (gl_s n bs a) (gl_e n bs a)
  obtain ⟨h1, h2, h3, h4, h5⟩ := h
  have hS : gl_S2 S n bs a P := ⟨h1, h2, h3, h4, h5⟩
  by_cases c3 : gl_k n bs a = 3
  · obtain ⟨v1, v2, v3⟩ := gl_vals (n := n) (bs := bs) c3
    have e35 := h2.2.2.2.1 c3
    generalize hvr : gl_vR bs (gl_e n bs a - gl_s n bs a) (gl_s n bs a) 0 = vr at v1 v3 e35
    have hrg : gh_rg (nI vr).toInt (nI lo).toInt (nI hi).toInt = decide (lo ≤ gl_val n bs a ∧ gl_val n bs a ≤ hi) := by
      rw [nI_toInt (by omega), nI_toInt (by omega), nI_toInt (by omega)]
      unfold gh_rg
      refine decide_eq_decide.mpr ?_
      unfold gl_eqv at v1
      omega
    have hcode : sX10_number N (nI lo) (nI hi) (nI n) S = (bif decide (lo ≤ gl_val n bs a ∧ gl_val n bs a ≤ hi) then (sX10_next N (nI n) S).bind fun q2 => some (nI vr, q2) else (sX10_errs N 3 S).bind fun q3 => some (nI lo, q3)) := by
      unfold sX10_number
      rw [h3, show gh_cmp .gt (0 : Int32) 0 = false from rfl, cond_false, h2.2.2.1, gl_sort3 hk hw, decide_eq_true c3, cond_true, e35, gh_inR, gq_bs, Int32.toInt_toInt64, Int32.toInt_toInt64, Int32.toInt_toInt64, hrg]
      show (bif gh_cmp .ne (gq_B _) 0 then ((sX10_next N (nI n) S).bind fun q2 => some (S.1 56 35, q2)) else _) = _
      rw [gq_B_ne, e35]
    by_cases cv : lo ≤ gl_val n bs a ∧ gl_val n bs a ≤ hi
    · have ge := gl_e_gt (n := n) (bs := bs) (a := a) (by omega) ha
      obtain ⟨S', a1, a2, a3⟩ := gl_nx N hN hn hb ge.2 hS
      have hvv : vr = gl_val n bs a := by
        unfold gl_eqv at v1
        omega
      refine ⟨S', a3, fun h => absurd c3 h, fun _ h => absurd cv h, fun _ _ => ⟨?_, a2⟩⟩
      rw [hcode, decide_eq_true cv, cond_true, a1, gq_bs, hvv]
    · obtain ⟨S', a1, a2, a3⟩ := gl_errs (f := 3) N h3 h2.2.1 (by omega) (by omega)
      have a1' : sX10_errs N 3 S = some S' := a1
      refine ⟨S', a3, fun h => absurd c3 h, fun _ _ => ⟨?_, a2⟩, fun _ h => absurd h cv⟩
      rw [hcode, decide_eq_false cv, cond_false, a1', gq_bs]
  · obtain ⟨S', a1, a2, a3⟩ := gl_errs (f := 1) N h3 h2.2.1 (by omega) (by omega)
    have a1' : sX10_errs N 1 S = some S' := a1
    refine ⟨S', a3, fun _ => ⟨?_, a2⟩, fun h => absurd h c3, fun h => absurd h c3⟩
    unfold sX10_number sX10_number_15
    rw [h3, show gh_cmp .gt (0 : Int32) 0 = false from rfl, cond_false, h2.2.2.1, gl_sort3 hk hw, decide_eq_false c3, cond_false, a1', gq_bs]
/-- from the second number on -/
theorem gl_145 (hN : 300 ≤ N) (hn : n ≤ 200) (hb : ∀ k, bs k < 256) {S : gh_St} {a f : Nat} {dk : Bool} (ha : a ≤ n) (hf : f ≤ (bif dk then 400 else 3)) (h8 : dk = true → P.2.1 < 8) (h : gl_S2 S n bs a P) : ∃ S', sX10_clause_145 N (nI n) (gq_B dk) (nI f) (nI (bif dk then 50 else 9999)) (gq_B dk) S = some S' ∧ gh_fr gl_CQ S S' ∧ (gl_f2 n bs a dk ≠ 0 → gl_ER S' (gl_f2 n bs a dk) (gl_s n bs a)) ∧ (gl_f2 n bs a dk = 0 → gl_f3 n bs (gl_e n bs a) ≠ 0 → gl_ER S' (gl_f3 n bs (gl_e n bs a)) (gl_s n bs (gl_e n bs a))) ∧ (gl_f2 n bs a dk = 0 → gl_f3 n bs (gl_e n bs a) = 0 → gl_S2 S' n bs (gl_e n bs (gl_e n bs a)) (gl_add P dk f (gl_val n bs a))) := by
  have hlo : gq_B dk = nI (bif dk then 1 else 0) := by cases dk <;> rfl
  obtain ⟨S1, a1, a2, a3, a4⟩ := gl_num (lo := bif dk then 1 else 0) (hi := bif dk then 50 else 9999) N hN hn hb ha (by cases dk <;> decide) (by cases dk <;> decide) h
  by_cases c3 : gl_k n bs a = 3
  case neg =>
    obtain ⟨b1, b2⟩ := a2 c3
    have ef : gl_f2 n bs a dk = 1 := by unfold gl_f2; rw [if_neg c3]
    refine ⟨S1, ?_, a1, fun _ => by rw [ef]; exact b2, fun h => by omega, fun h => by omega⟩
    unfold sX10_clause_145
    rw [show sX10_number N (gq_B dk) (nI (bif dk then 50 else 9999)) (nI n) S = some (nI (bif dk then 1 else 0), S1) from by rw [← b1]; rw [hlo], gq_bs]
    show (bif gh_cmp .ne (S1.1 56 36) 0 then sX10_clause_174 N (gq_B dk) (nI f) _ S1 else _) = _
    rw [b2.1, show gh_cmp .ne (nI 1) 0 = true from rfl, cond_true]
    unfold sX10_clause_174
    rw [gl_errsE N b2, gq_bs, gl_179E N b2]
  by_cases cv : (bif dk then 1 else 0) ≤ gl_val n bs a ∧ gl_val n bs a ≤ (bif dk then 50 else 9999)
  case neg =>
    obtain ⟨b1, b2⟩ := a3 c3 cv
    have ef : gl_f2 n bs a dk = 3 := by unfold gl_f2; rw [if_pos c3, if_neg cv]
    refine ⟨S1, ?_, a1, fun _ => by rw [ef]; exact b2, fun h => by omega, fun h => by omega⟩
    unfold sX10_clause_145
    rw [show sX10_number N (gq_B dk) (nI (bif dk then 50 else 9999)) (nI n) S = some (nI (bif dk then 1 else 0), S1) from by rw [← b1]; rw [hlo], gq_bs]
    show (bif gh_cmp .ne (S1.1 56 36) 0 then sX10_clause_174 N (gq_B dk) (nI f) _ S1 else _) = _
    rw [b2.1, show gh_cmp .ne (nI 3) 0 = true from rfl, cond_true]
    unfold sX10_clause_174
    rw [gl_errsE N b2, gq_bs, gl_179E N b2]
  obtain ⟨b1, b2⟩ := a4 c3 cv
  have ef : gl_f2 n bs a dk = 0 := by unfold gl_f2; rw [if_pos c3, if_pos cv]
  have ge := gl_e_gt (n := n) (bs := bs) (a := a) (by omega) ha
  have hk4 := gl_k_le (n := n) (bs := bs) (a := gl_e n bs a)
  have hw4 : gl_wda n bs (gl_e n bs a) ≤ 2 := gl_wd_le bs (gl_s n bs (gl_e n bs a)) (gl_e n bs (gl_e n bs a))
  obtain ⟨p1, p2, p3, p4, p5⟩ := b2
  have hS1 : gl_S2 S1 n bs (gl_e n bs a) P := ⟨p1, p2, p3, p4, p5⟩
  have hcode : sX10_clause_145 N (nI n) (gq_B dk) (nI f) (nI (bif dk then 50 else 9999)) (gq_B dk) S = (bif decide (gl_k n bs (gl_e n bs a) ≠ 4) then sX10_clause_174 N (gq_B dk) (nI f) (nI (gl_val n bs a)) S1 else (sX10_next N (nI n) S1).bind fun q2 => sX10_clause_179 N (gq_B dk) (nI f) (nI (gl_val n bs a)) q2) := by
    unfold sX10_clause_145
    rw [show sX10_number N (gq_B dk) (nI (bif dk then 50 else 9999)) (nI n) S = some (nI (gl_val n bs a), S1) from by rw [← b1]; rw [hlo], gq_bs]
    show (bif gh_cmp .ne (S1.1 56 36) 0 then _ else bif gh_cmp .ne (S1.1 56 34) 3 then sX10_clause_174 N (gq_B dk) (nI f) (nI (gl_val n bs a)) S1 else (sX10_next N (nI n) S1).bind fun q2 => sX10_clause_179 N (gq_B dk) (nI f) (nI (gl_val n bs a)) q2) = _
    rw [p3, show gh_cmp .ne (0 : Int32) 0 = false from rfl, cond_false, p2.2.2.1, gl_sort4n hk4 hw4]
  by_cases c4 : gl_k n bs (gl_e n bs a) = 4
  case neg =>
    have ef3 : gl_f3 n bs (gl_e n bs a) = 1 := by unfold gl_f3; rw [if_neg c4]
    obtain ⟨S2, d1, d2, d3⟩ := gl_errs (f := 1) N p3 p2.2.1 (by omega) (by omega)
    have d1' : sX10_errs N 1 S1 = some S2 := d1
    refine ⟨S2, ?_, gh_fr_trans a1 d3, fun h => absurd ef h, fun _ _ => by rw [ef3]; exact d2, fun _ h => by omega⟩
    rw [hcode, decide_eq_true c4, cond_true]
    unfold sX10_clause_174
    rw [d1', gq_bs, gl_179E N d2]
  have ef3 : gl_f3 n bs (gl_e n bs a) = 0 := by unfold gl_f3; rw [if_pos c4]
  have ge2 := gl_e_gt (n := n) (bs := bs) (a := gl_e n bs a) (by omega) ge.2
  obtain ⟨S2, d1, d2, d3⟩ := gl_nx N hN hn hb ge2.2 hS1
  obtain ⟨r1, r2, r3, r4, r5⟩ := d2
  rw [hcode, decide_eq_false (not_not_intro c4), cond_false, d1, gq_bs]
  have f2 := gh_fr_trans a1 d3
  generalize gl_val n bs a = v at cv ⊢
  unfold sX10_clause_179
  rw [r3, show gh_cmp .ne (0 : Int32) 0 = false from rfl, cond_false, gq_B_ne]
  have tr : ∀ S3 : gh_St, (∀ k, k ≠ 41 → S3.1 56 k = S2.1 56 k) → gl_TR S3 n bs (gl_e n bs (gl_e n bs a)) := fun S3 h3 => ⟨(h3 32 (by omega)).trans r2.1, (h3 33 (by omega)).trans r2.2.1, (h3 34 (by omega)).trans r2.2.2.1, fun h => (h3 35 (by omega)).trans (r2.2.2.2.1 h), fun h => (h3 35 (by omega)).trans (r2.2.2.2.2 h)⟩
  cases dk with
  | false =>
    have hf : f ≤ 3 := hf
    have cv : 0 ≤ v ∧ v ≤ 9999 := cv
    rw [cond_false, gh_wa_n (by omega) (by decide), gq_bs]
    refine ⟨gh_fI S2 77 f (nI v), rfl, gh_fr_fI f2 rfl, fun h => absurd ef h, fun _ h => absurd ef3 h, fun _ _ => ⟨fun k hk => by rw [gh_fI_1, if_neg (by omega)]; exact r1 k hk, tr _ (fun k _ => by rw [gh_fI_1, if_neg (by omega)]), by rw [gh_fI_1, if_neg (by omega)]; exact r3, by rw [gh_fI_1, if_neg (by omega)]; exact r4, ?_⟩⟩
    refine ⟨by rw [gh_fI_1, if_neg (by omega)]; exact r5.1, r5.2.1, fun k hk => ?_, fun i hi => ?_⟩
    · show _ = gl_np (gh_nu P.1 f (some v) k) ∧ (gh_nu P.1 f (some v) k).getD 0 ≤ 9999
      rw [gh_fI_1]
      by_cases q : k = f
      · subst q
        rw [gh_nu_s, if_pos ⟨rfl, rfl⟩]
        exact ⟨rfl, cv.2⟩
      · rw [gh_nu_n _ _ q, if_neg (fun w => q w.2)]
        exact r5.2.2.1 k hk
    · rw [gh_fI_1, if_neg (by omega), gh_fI_1, if_neg (by omega)]
      exact r5.2.2.2 i hi
  | true =>
    have hf : f ≤ 400 := hf
    have cv : 1 ≤ v ∧ v ≤ 50 := cv
    have h88 := h8 rfl
    have r41 : ∀ (T : gh_St) c j x, c ≠ 56 → (gh_fI T c j x).1 56 41 = T.1 56 41 := fun T c j x hc => by rw [gh_fI_1, if_neg (by omega)]
    unfold sX10_clause_202
    rw [cond_true, r3, show gh_cmp .ne (0 : Int32) 0 = false from rfl, cond_false, r5.1, gh_wa_n h88 (by decide), gq_bs, r41 _ 78 _ _ (by omega), r5.1, gh_wa_n h88 (by decide), gq_bs, r41 _ 79 _ _ (by omega), r41 _ 78 _ _ (by omega), r5.1, nI_1]
    refine ⟨gh_fI (gh_fI (gh_fI S2 78 P.2.1 (nI f)) 79 P.2.1 (nI v)) 56 41 (nI (P.2.1 + 1)), rfl, gh_fr_fI (gh_fr_fI (gh_fr_fI f2 rfl) rfl) rfl, fun h => absurd ef h, fun _ h => absurd ef3 h, fun _ _ => ⟨fun k hk => by simp only [gh_fI_1, Nat.reduceEqDiff, false_and, if_false]; exact r1 k hk, tr _ (fun k hk => by rw [gh_fI_1, if_neg (by omega), gh_fI_1, if_neg (by omega), gh_fI_1, if_neg (by omega)]), by rw [gh_fI_1, if_neg (by omega), gh_fI_1, if_neg (by omega), gh_fI_1, if_neg (by omega)]; exact r3, by rw [gh_fI_1, if_neg (by omega), gh_fI_1, if_neg (by omega), gh_fI_1, if_neg (by omega)]; exact r4, ?_⟩⟩
    refine ⟨by rw [gh_fI_1, if_pos ⟨rfl, rfl⟩]; rfl, by show P.2.1 + 1 ≤ 8; omega, fun k hk => ?_, fun i hi => ?_⟩
    · simp only [gh_fI_1, Nat.reduceEqDiff, false_and, if_false]
      exact r5.2.2.1 k hk
    · have hi : i < P.2.1 + 1 := hi
      show _ = nI (gh_nu P.2.2.1 P.2.1 f i) ∧ _ = nI (gh_nu P.2.2.2 P.2.1 v i) ∧ gh_nu P.2.2.1 P.2.1 f i ≤ 400 ∧ gh_nu P.2.2.2 P.2.1 v i ≤ 50
      by_cases q : i = P.2.1
      · subst q
        simp [gh_fI_1, gh_nu_s]
        omega
      · rw [gh_nu_n _ _ q, gh_nu_n _ _ q]
        simp [gh_fI_1, q]
        exact r5.2.2.2 i (by omega)
theorem gl_wasDock4 {S : gh_St} (h : gl_LR S P) {v : Nat} (hv : v ≤ 1000000) : ∀ (j i fu : Nat) (w : Bool), i + j = P.2.1 → j < fu → sX10_wasDock_4 N fu (nI v) (gq_B w) (nI i) S = some (gq_B (w || (List.range' i j).any (fun i => Nat.beq (P.2.2.1 i) v)), S) := by
  have h8 := h.2.1
  intro j
  induction j with
  | zero =>
    intro i fu w hi hfu
    obtain ⟨fu, rfl⟩ : ∃ q, fu = q + 1 := ⟨fu - 1, by omega⟩
    rw [sX10_wasDock_4, h.1, gh_n_ge (by omega) (by omega), decide_eq_true (by omega), cond_true, gq_B_gB, gq_bs]
    show some (gq_B w, S) = some (gq_B (w || false), S)
    rw [Bool.or_false]
  | succ j ih =>
    intro i fu w hi hfu
    obtain ⟨fu, rfl⟩ : ∃ q, fu = q + 1 := ⟨fu - 1, by omega⟩
    obtain ⟨d1, d2, d3, d4⟩ := h.2.2.2 i (by omega)
    rw [sX10_wasDock_4, h.1, gh_n_ge (by omega) (by omega), decide_eq_false (by omega), cond_false, gq_B_ne, gh_ra_n (by omega) (by decide), gq_bs, d1, gl_n_beq (by omega) (by omega), List.range'_succ, List.any_cons]
    unfold sX10_wasDock_26 sX10_wasDock_31
    rw [nI_1]
    cases w with
    | true =>
      have := ih (i + 1) fu true (by omega) (by omega)
      rw [Bool.true_or] at this ⊢
      exact this
    | false =>
      rw [cond_false, Bool.false_or]
      cases Nat.beq (P.2.2.1 i) v with
      | true =>
        have := ih (i + 1) fu true (by omega) (by omega)
        rw [Bool.true_or] at this ⊢
        exact this
      | false =>
        have := ih (i + 1) fu false (by omega) (by omega)
        rw [Bool.false_or] at this ⊢
        exact this
theorem gl_twR {S : gh_St} {vc vr : Nat} (h : gl_LR S P) (hv : gl_eqv vc vr) : (List.range P.2.1).any (fun i => Nat.beq (P.2.2.1 i) vr) = gl_tw P true vc := by
  show _ = (List.range P.2.1).any (fun i => Nat.beq (P.2.2.1 i) vc)
  unfold gl_eqv at hv
  rcases hv with ⟨e, -⟩ | ⟨e1, e2⟩
  · rw [e]
  · have z : ∀ x, 99999 < x → (List.range P.2.1).any (fun i => Nat.beq (P.2.2.1 i) x) = false := fun x hx => by
      refine gf_bf (fun w => ?_)
      obtain ⟨i, h1, h2⟩ := List.any_eq_true.mp w
      have h3 := (h.2.2.2 i (List.mem_range.mp h1)).2.2.1
      have := Nat.eq_of_beq_eq_true h2
      omega
    rw [z vr e2, z vc e1]
end GlRr
