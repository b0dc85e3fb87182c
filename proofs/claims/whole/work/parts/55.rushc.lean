/-! ===== TRUCKS: the class's rush ===== -/
theorem gr_bit : ∀ m, m < 128 → ∀ t, t < 7 → gh_cmp .eq ((nI m >>> (nI t &&& 31)) &&& (1 : Int32)) 0 = !m.testBit t := by decide +kernel
theorem gr_bitn : ∀ m, m < 128 → ∀ t, t < 7 → gh_cmp .ne ((nI m >>> (nI t &&& 31)) &&& (1 : Int32)) 0 = m.testBit t := by decide +kernel
theorem gr_or : ∀ m, m < 128 → ∀ t, t < 7 → nI m ||| ((1 : Int32) <<< (nI t &&& 31)) = nI (m ||| 2 ^ t) ∧ m ||| 2 ^ t < 128 := by decide +kernel
theorem gr_at_lt {p s : List Nat} {i : Nat} (h : i < p.length) : gr_at (p ++ s) i = gr_at p i := by
  unfold gr_at
  rw [List.getD_eq_getElem?_getD, List.getD_eq_getElem?_getD, List.getElem?_append_left h]
theorem gr_at_ge (p s : List Nat) (i : Nat) : gr_at (p ++ s) (p.length + i) = gr_at s i := by
  unfold gr_at
  rw [List.getD_eq_getElem?_getD, List.getD_eq_getElem?_getD, List.getElem?_append_right (by omega), Nat.add_sub_cancel_left]
theorem gr_erase {n mask t : Nat} (ht : t ∈ (List.range n).filter (fun x => !mask.testBit x)) : ((List.range n).filter (fun x => !mask.testBit x)).erase t = (List.range n).filter (fun x => !(mask ||| 2 ^ t).testBit x) := by
  have hnd : ((List.range n).filter (fun x => !mask.testBit x)).Nodup := List.Pairwise.filter _ List.nodup_range
  rw [hnd.erase_eq_filter, List.filter_filter]
  refine List.filter_congr (fun x _ => ?_)
  rw [Nat.testBit_or, Nat.testBit_two_pow]
  by_cases e : x = t
  · subst e
    simp
  · have e2 : ¬ t = x := fun h => e h.symm
    simp [e, e2]
def gr_CT (c k : Nat) : Bool := Nat.beq c 23 || Nat.beq c 24 || (Nat.beq c 18 && Nat.beq k 10)
theorem gr_CW_CT : ∀ c k, gr_CT c k = true → gr_CW c k = true := by
  intro c k h
  unfold gr_CT at h
  unfold gr_CW
  simp only [Bool.or_eq_true, Bool.and_eq_true, Nat.beq_eq, Nat.ble_eq] at h ⊢
  omega
section GrC
variable {n : Nat} {mi ki we : Nat → Nat} {u c : Nat} {hv : Nat → Nat} (N : Nat)
theorem gr_takes {S : gh_St} (hS : gr_RS S n mi ki we u c) {tr : Nat → Nat} {d t : Nat} (hd : d < 7) (ht : t < 7) (htr : ∀ i, i < d → tr i < 7 ∧ S.1 23 i = nI (tr i)) : sX7_takes N (nI d) (nI t) S = some (nI (u + if 0 < d ∧ ki (tr (d - 1)) ≠ ki t then c else 0), S) := by
  obtain ⟨s1, s2, s3, s4, s5, s6, s7, s8, s9, s10, s11⟩ := hS
  unfold sX7_takes
  rw [show gh_cmp .le (nI d) 0 = decide (d ≤ 0) from gh_n_le (b := 0) (by omega) (by omega)]
  have e30 : sX7_takes_30 N S = some (nI u, S) := by
    unfold sX7_takes_30 sX7_takes_31
    rw [s7]
    rfl
  by_cases h0 : d = 0
  · rw [decide_eq_true (by omega), cond_true, if_neg (by omega), e30]
    rfl
  · obtain ⟨d', rfl⟩ : ∃ d', d = d' + 1 := ⟨d - 1, by omega⟩
    obtain ⟨h1, h2⟩ := htr d' (by omega)
    obtain ⟨-, -, x3, -, -, -, -, x8, -⟩ := s11 _ h1
    obtain ⟨-, -, y3, -, -, -, -, y8, -⟩ := s11 _ ht
    rw [decide_eq_false (by omega), cond_false, nI_pred, gh_ra_n (by omega) (by decide), gq_bs, h2, gh_ra_n h1 (by decide), gq_bs, gh_ra_n ht (by decide), gq_bs, x3, y3, gh_n_eq (by omega) (by omega), Nat.add_sub_cancel]
    by_cases e : ki (tr d') = ki t
    · rw [decide_eq_true e, cond_true, if_neg (fun h => h.2 e), e30]
      rfl
    · rw [decide_eq_false e, cond_false, if_pos ⟨by omega, e⟩]
      unfold sX7_takes_31
      rw [s7, s9, nI_add]
      rfl
theorem gr_atl {m f : Nat} (hm : m < 128) (hf : f ≤ 2000) {S : gh_St} (hS : gr_RS S n mi ki we u c) (h22 : ∀ k, k < n → S.1 22 k = nI (hv k)) (hlt : ∀ k, k < n → hv k < 7) : ∀ (j i fu b : Nat) (A : Int) (B : Nat), i + j = n → j < fu → b ≤ f + 60 * i → -45000 * (i : Int) ≤ A → A ≤ 45000 * (i : Int) → B ≤ 45000 * i → sX7_atLeast_11 N fu (nI m) (nI f) (gq_Z A) (nI B) (nI b) (nI i) S = some (gq_Z (max (A + gr_in mi we u b (((List.range' i j).map hv).filter (fun t => !m.testBit t))) ((B + gr_once mi we f (((List.range' i j).map hv).filter (fun t => !m.testBit t)) : Nat) : Int)), S) := by
  obtain ⟨s1, s2, s3, s4, s5, s6, s7, s8, s9, s10, s11⟩ := hS
  intro j
  induction j with
  | zero =>
    intro i fu b A B hi hfu hb hA1 hA2 hB
    obtain ⟨fu, rfl⟩ : ∃ q, fu = q + 1 := ⟨fu - 1, by omega⟩
    rw [sX7_atLeast_11, s5, gh_n_ge (by omega) (by omega), decide_eq_true (by omega), cond_true, ← gq_Z_n B, gq_Z_max (by omega) (by omega) (by omega) (by omega)]
    simp [gr_in, gr_once]
  | succ j ih =>
    intro i fu b A B hi hfu hb hA1 hA2 hB
    obtain ⟨fu, rfl⟩ : ∃ q, fu = q + 1 := ⟨fu - 1, by omega⟩
    have h7 := hlt i (by omega)
    obtain ⟨t1, t2, t3, t4, t5, t6, t7, t8, t9⟩ := s11 _ h7
    rw [sX7_atLeast_11, s5, gh_n_ge (by omega) (by omega), decide_eq_false (by omega), cond_false, gh_ra_n (by omega) (by decide), gq_bs, h22 i (by omega), gr_bitn m hm _ h7, List.range'_succ, List.map_cons, List.filter_cons]
    unfold sX7_atLeast_94
    cases hb2 : m.testBit (hv i) with
    | true =>
      rw [cond_true, nI_1]
      exact ih (i + 1) fu b A B (by omega) (by omega) (by omega) (by omega) (by omega) (by omega)
    | false =>
      rw [cond_false, gh_ra_n h7 (by decide), gq_bs, gh_ra_n h7 (by decide), gq_bs, gq_bs, gq_bs, t1, t5, s7, nI_1, nI_add]
      have e1 : gq_Z A + (nI b - nI (mi (hv i))) * nI (we (hv i)) = gq_Z (A + ((b : Int) - mi (hv i)) * we (hv i)) := by
        rw [← gq_Z_n, ← gq_Z_n, ← gq_Z_n, gq_Z_sub, gq_Z_mul, gq_Z_add]
      have e2 : nI B + gh_max 0 (nI f - nI (mi (hv i))) * nI (we (hv i)) = nI (B + (f - mi (hv i)) * we (hv i)) := by
        have : gh_max 0 (nI f - nI (mi (hv i))) = nI (f - mi (hv i)) := by
          rw [show (0 : Int32) = gq_Z 0 from rfl, ← gq_Z_n, ← gq_Z_n, gq_Z_sub, gq_Z_max (by omega) (by omega) (by omega) (by omega), ← gq_Z_n]
          exact congrArg gq_Z (by omega)
        rw [this, pk_mul, nI_add]
      have b1 : ((b : Int) - mi (hv i)) * we (hv i) ≤ 45000 := by
        have : ((b : Int) - mi (hv i)) * we (hv i) ≤ 5000 * we (hv i) := Int.mul_le_mul_of_nonneg_right (by omega) (by omega)
        omega
      have b2 : -45000 ≤ ((b : Int) - mi (hv i)) * we (hv i) := by
        have : (-5000 : Int) * we (hv i) ≤ ((b : Int) - mi (hv i)) * we (hv i) := Int.mul_le_mul_of_nonneg_right (by omega) (by omega)
        omega
      have b3 : (f - mi (hv i)) * we (hv i) ≤ 5000 * 9 := Nat.mul_le_mul (by omega) t9
      rw [e1, e2, ih (i + 1) fu (b + u) _ _ (by omega) (by omega) (by omega) (by omega) (by omega) (by omega)]
      simp only [Bool.not_false, if_true, gr_in, gr_once]
      congr 3
      have : ((b + u : Nat) : Int) = (b : Int) + u := by omega
      rw [this]
      omega
theorem gr_atLeast (hN : 100 ≤ N) {m f : Nat} (hm : m < 128) (hf : f ≤ 2000) {S : gh_St} (hS : gr_RS S n mi ki we u c) (h22 : ∀ k, k < n → S.1 22 k = nI (hv k)) (hlt : ∀ k, k < n → hv k < 7) : sX7_atLeast N (nI m) (nI f) S = some (gq_Z (max (gr_in mi we u f (((List.range n).map hv).filter (fun t => !m.testBit t))) ((gr_once mi we f (((List.range n).map hv).filter (fun t => !m.testBit t)) : Nat) : Int)), S) := by
  have := gr_atl (N := N) hm hf hS h22 hlt n 0 N f 0 0 (by omega) (by have := hS.1; omega) (by omega) (by omega) (by omega) (by omega)
  unfold sX7_atLeast
  rw [show (0 : Int32) = nI 0 from rfl, show gq_Z 0 = nI 0 from rfl] at *
  rw [this, List.range_eq_range']
  simp
/-- no row of the trucks not yet taken stays below -/
theorem gr_bound (hh : gr_hv we hv n) {mask : Nat} {p l : List Nat} (hl : l.Perm ((List.range n).filter (fun t => !mask.testBit t))) : ((gr_go mi ki we u c (gr_at p) p.length).2 : Int) + max (gr_in mi we u (gr_go mi ki we u c (gr_at p) p.length).1 (((List.range n).map hv).filter (fun t => !mask.testBit t))) ((gr_once mi we (gr_go mi ki we u c (gr_at p) p.length).1 (((List.range n).map hv).filter (fun t => !mask.testBit t)) : Nat) : Int) ≤ (gr_w mi ki we u c (p ++ l) : Int) := by
  have hp : l.Perm (((List.range n).map hv).filter (fun t => !mask.testBit t)) := hl.trans (hh.1.filter _).symm
  have hs : (((List.range n).map hv).filter (fun t => !mask.testBit t)).Pairwise (fun a b => we b ≤ we a) := by
    refine List.Pairwise.filter _ ?_
    rw [List.pairwise_iff_getElem]
    intro i j h1 h2 h3
    simp only [List.length_map, List.length_range] at h1 h2
    simp only [List.getElem_map, List.getElem_range]
    exact hh.2 i j h3 h2
  have e : gr_go mi ki we u c (gr_at (p ++ l)) p.length = gr_go mi ki we u c (gr_at p) p.length := gr_go_cg _ (fun j hj => gr_at_lt hj)
  have h1 := gr_lb_in (mi := mi) (ki := ki) (we := we) (u := u) (c := c) (tr := gr_at (p ++ l)) l p.length ((gr_go mi ki we u c (gr_at p) p.length).1 : Int) (fun i _ => gr_at_ge p l i) (by rw [e]; exact Int.le_refl _)
  have h2 := gr_lb_once (mi := mi) (ki := ki) (we := we) (u := u) (c := c) (tr := gr_at (p ++ l)) l p.length (gr_go mi ki we u c (gr_at p) p.length).1 (fun i _ => gr_at_ge p l i) (by rw [e]; exact Nat.le_refl _)
  have h3 := gr_in_least (mi := mi) (we := we) (u := u) _ l ((gr_go mi ki we u c (gr_at p) p.length).1 : Int) hs hp
  rw [e] at h1 h2
  rw [← gr_once_perm hp]
  unfold gr_w
  rw [List.length_append]
  omega
/-- what the class holds as the best so far -/
def gr_repC (S : gh_St) (n : Nat) (acc : Option (Nat × List Nat)) : Prop :=
  match acc with
  | none => S.1 18 10 = nI 1000000000
  | some (a, o) => S.1 18 10 = nI a ∧ a ≤ 120000 ∧ ∀ k, k < n → S.1 24 k = nI (gr_at o k)
def gr_foldp (mi ki we : Nat → Nat) (u c : Nat) (p : List Nat) (L : List (List Nat)) (acc : Option (Nat × List Nat)) : Option (Nat × List Nat) := L.foldl (fun acc l => gr_pick mi ki we u c acc (p ++ l)) acc
theorem gr_foldp_map (p : List Nat) (t : Nat) (L : List (List Nat)) (acc : Option (Nat × List Nat)) : gr_foldp mi ki we u c p (L.map fun l => t :: l) acc = gr_foldp mi ki we u c (p ++ [t]) L acc := by
  unfold gr_foldp
  rw [List.foldl_map]
  congr 1
  funext acc l
  rw [List.append_assoc]
  rfl
theorem gr_foldp_no {p : List Nat} {a : Nat} {o : List Nat} : ∀ (L : List (List Nat)), (∀ l, l ∈ L → a ≤ gr_w mi ki we u c (p ++ l)) → gr_foldp mi ki we u c p L (some (a, o)) = some (a, o) := by
  intro L
  unfold gr_foldp
  induction L with
  | nil => intro _; rfl
  | cons l L ih =>
    intro h
    have h1 := h l List.mem_cons_self
    rw [List.foldl_cons]
    have e : gr_pick mi ki we u c (some (a, o)) (p ++ l) = some (a, o) := by
      show (if _ then _ else _) = _
      rw [if_neg (by omega)]
    rw [e]
    exact ih (fun l hl => h l (List.mem_cons_of_mem _ hl))
/-- what a run of tryAll at p does -/
def gr_D (N : Nat) (n : Nat) (mi ki we : Nat → Nat) (u c : Nat) (hv : Nat → Nat) (m q : Nat) : Prop :=
  ∀ (p : List Nat) (mask : Nat) (S : gh_St) (acc : Option (Nat × List Nat)), p.length + m = n → mask < 128 → (∀ i, i < p.length → gr_at p i < n) → ((List.range n).filter (fun t => !mask.testBit t)).length = m → gr_RS S n mi ki we u c → (∀ k, k < n → S.1 22 k = nI (hv k)) → gr_hv we hv n → (∀ i, i < p.length → S.1 23 i = nI (gr_at p i)) → gr_repC S n acc → (∀ a o, acc = some (a, o) → (gr_go mi ki we u c (gr_at p) p.length).2 < a) → ∃ S', sX7_tryAll_r N q (nI p.length) (nI mask) (nI (gr_go mi ki we u c (gr_at p) p.length).1) (nI (gr_go mi ki we u c (gr_at p) p.length).2) S = some S' ∧ gr_repC S' n (gr_foldp mi ki we u c p (gr_ext m ((List.range n).filter (fun t => !mask.testBit t))) acc) ∧ gh_fr gr_CT S S' ∧ (∀ i, i < p.length → S'.1 23 i = S.1 23 i)
theorem gr_D0 {q : Nat} : gr_D N n mi ki we u c hv 0 (q + 1) := by
  intro p mask S acc hp hm hat hr hS h22 hh h23 hrep hlt
  have hS' := hS
  obtain ⟨s1, s2, s3, s4, s5, s6, s7, s8, s9, s10, s11⟩ := hS
  have hpl : p.length = n := by omega
  have hgo := gr_go_b (ki := ki) (tr := gr_at p) (fun k hk => (s11 k hk).2.2.2.2.2.2.1) (fun k hk => (s11 k hk).2.2.2.2.2.2.2.2) s3 s4 s1 (fun j hj => by have := hat j (by omega); omega)
  rw [← hpl] at hgo
  obtain ⟨w, hw⟩ : ∃ w, w = (gr_go mi ki we u c (gr_at p) p.length).2 := ⟨_, rfl⟩
  have hW : gr_w mi ki we u c p = w := hw.symm
  rw [← hw] at hlt hgo ⊢
  rw [sX7_tryAll_r, sX7_tryAll, hpl, s5, gh_n_lt (by omega) (by omega), decide_eq_false (by omega), cond_false]
  have e18 : (gh_fI S 18 10 (nI w)).1 18 7 = nI n := by rw [gh_fI_1, if_neg (by omega), s5]
  rw [e18]
  have hcp : gh_cp (gh_fI S 18 10 (nI w)) 24 7 23 7 0 0 (nI n) = some (gh_up (gh_fI S 18 10 (nI w)).1 24 (va_cpy ((gh_fI S 18 10 (nI w)).1 23) ((gh_fI S 18 10 (nI w)).1 24) 0 0 n), (gh_fI S 18 10 (nI w)).2.1, (gh_fI S 18 10 (nI w)).2.2) := by
    unfold gh_cp
    rw [nI_clamp (by omega)]
    have : decide (nI n < 0) = false := decide_eq_false (nI_pos (by omega))
    rw [this]
    have e2 : Nat.ble (Int32.toNatClampNeg 0 + n) 7 = true := Nat.ble_eq.mpr (by show 0 + n ≤ 7; omega)
    rw [e2]
    rfl
  rw [hcp, gq_bs]
  have hnew : gr_foldp mi ki we u c p (gr_ext 0 ((List.range n).filter (fun t => !mask.testBit t))) acc = some (w, p) := by
    show gr_pick mi ki we u c acc (p ++ []) = _
    rw [List.append_nil]
    cases acc with
    | none => rw [← hW]; rfl
    | some x =>
      obtain ⟨a, o⟩ := x
      show (if _ then _ else _) = _
      rw [hW, if_pos (hlt a o rfl)]
  have rd : ∀ c' k', c' ≠ 24 → (gh_up (gh_fI S 18 10 (nI w)).1 24 (va_cpy ((gh_fI S 18 10 (nI w)).1 23) ((gh_fI S 18 10 (nI w)).1 24) 0 0 n)) c' k' = (gh_fI S 18 10 (nI w)).1 c' k' := fun c' k' h => by rw [gh_up_ne _ _ h]
  refine ⟨_, rfl, ?_, ⟨fun c' k' h => ?_, fun _ _ _ => rfl, rfl⟩, fun i hi => ?_⟩
  · rw [hnew]
    refine ⟨?_, hgo.2, fun k hk => ?_⟩
    · refine (rd 18 10 (by omega)).trans ?_
      rw [gh_fI_1, if_pos ⟨rfl, rfl⟩]
    · have e : (gh_up (gh_fI S 18 10 (nI w)).1 24 (va_cpy ((gh_fI S 18 10 (nI w)).1 23) ((gh_fI S 18 10 (nI w)).1 24) 0 0 n)) 24 k = (gh_fI S 18 10 (nI w)).1 23 k := by
        rw [gh_up_eq]
        unfold va_cpy
        rw [if_pos (by omega), Nat.sub_zero, Nat.zero_add]
      refine e.trans ?_
      rw [gh_fI_1, if_neg (by omega)]
      exact h23 k (by omega)
  · have h1 : c' ≠ 24 := by
      intro e
      subst e
      cases h
    refine (rd c' k' h1).trans ?_
    rw [gh_fI_1, if_neg (by
      rintro ⟨rfl, rfl⟩
      cases h)]
  · refine (rd 23 i (by omega)).trans ?_
    rw [gh_fI_1, if_neg (by omega)]
end GrC
