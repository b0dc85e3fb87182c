/-! ===== TRUCKS: rush and served ===== -/
section GrDn
variable {n : Nat} {mi ki we : Nat → Nat} {u c : Nat} {hv : Nat → Nat} (N : Nat)
theorem gr_go_snoc (p : List Nat) (t : Nat) : gr_go mi ki we u c (gr_at (p ++ [t])) (p ++ [t]).length = (max (gr_go mi ki we u c (gr_at p) p.length).1 (mi t) + (u + if 0 < p.length ∧ ki (gr_at p (p.length - 1)) ≠ ki t then c else 0), (gr_go mi ki we u c (gr_at p) p.length).2 + (max (gr_go mi ki we u c (gr_at p) p.length).1 (mi t) - mi t) * we t) := by
  have e1 : gr_go mi ki we u c (gr_at (p ++ [t])) p.length = gr_go mi ki we u c (gr_at p) p.length := gr_go_cg _ (fun j hj => gr_at_lt hj)
  have e2 : gr_at (p ++ [t]) p.length = t := gr_at_ge p [t] 0
  rw [List.length_append, List.length_singleton, gr_go, e1, e2]
  by_cases h : 0 < p.length
  · rw [gr_at_lt (show p.length - 1 < p.length by omega)]
  · rw [if_neg (fun q => h q.1), if_neg (fun q => h q.1)]
theorem gr_Dn (hN : 100 ≤ N) {m q : Nat} (ih : gr_D N n mi ki we u c hv m q) : gr_D N n mi ki we u c hv (m + 1) (q + 1) := by
  intro p mask S acc hp hm hat hr hS h22 hh h23 hrep hlt
  have hn := hS.1
  have hmi : ∀ k, k < 7 → mi k ≤ 999 := fun k hk => (hS.2.2.2.2.2.2.2.2.2.2 k hk).2.2.2.2.2.2.1
  have hwe : ∀ k, k < 7 → we k ≤ 9 := fun k hk => (hS.2.2.2.2.2.2.2.2.2.2 k hk).2.2.2.2.2.2.2.2
  have hgo := gr_go_b (ki := ki) (tr := gr_at p) hmi hwe hS.2.2.1 hS.2.2.2.1 (show p.length ≤ 7 by omega) (fun j hj => by have := hat j hj; omega)
  have hsn := gr_go_snoc (mi := mi) (ki := ki) (we := we) (u := u) (c := c) p
  obtain ⟨rm, hrm⟩ : ∃ rm, rm = (List.range n).filter (fun t => !mask.testBit t) := ⟨_, rfl⟩
  obtain ⟨fr, hfr⟩ : ∃ x, x = (gr_go mi ki we u c (gr_at p) p.length).1 := ⟨_, rfl⟩
  obtain ⟨w, hw⟩ : ∃ x, x = (gr_go mi ki we u c (gr_at p) p.length).2 := ⟨_, rfl⟩
  rw [← hrm] at hr ⊢
  rw [← hfr, ← hw] at hgo hsn ⊢
  rw [← hw] at hlt
  have loop : ∀ (j t fu : Nat) (S1 : gh_St) (acc1 : Option (Nat × List Nat)), t + j = n → j < fu → gr_RS S1 n mi ki we u c → (∀ k, k < n → S1.1 22 k = nI (hv k)) → (∀ i, i < p.length → S1.1 23 i = nI (gr_at p i)) → gr_repC S1 n acc1 → ∃ S', sX7_tryAll_35 N (sX7_tryAll_r N q) fu (nI p.length) (nI mask) (nI fr) (nI w) (nI t) S1 = some S' ∧ gr_repC S' n (gr_foldp mi ki we u c p (((List.range' t j).filter (fun t => !mask.testBit t)).flatMap fun t => (gr_ext m (rm.erase t)).map fun l => t :: l) acc1) ∧ gh_fr gr_CT S1 S' ∧ (∀ i, i < p.length → S'.1 23 i = S1.1 23 i) := by
    intro j
    induction j with
    | zero =>
      intro t fu S1 acc1 ht hfu k1 k2 k3 k4
      obtain ⟨fu, rfl⟩ : ∃ q, fu = q + 1 := ⟨fu - 1, by omega⟩
      refine ⟨S1, ?_, k4, gh_fr_refl _ _, fun _ _ => rfl⟩
      rw [sX7_tryAll_35, k1.2.2.2.2.1, gh_n_ge (by omega) (by omega), decide_eq_true (by omega)]
      rfl
    | succ j jh =>
      intro t fu S1 acc1 ht hfu k1 k2 k3 k4
      obtain ⟨fu, rfl⟩ : ∃ q, fu = q + 1 := ⟨fu - 1, by omega⟩
      have ht7 : t < 7 := by omega
      rw [sX7_tryAll_35, k1.2.2.2.2.1, gh_n_ge (by omega) (by omega), decide_eq_false (by omega), cond_false, gr_bit mask hm t ht7, List.range'_succ, List.filter_cons]
      cases hb : mask.testBit t with
      | true =>
        rw [Bool.not_true, cond_false, if_neg (by decide)]
        unfold sX7_tryAll_151
        rw [nI_1]
        exact jh (t + 1) fu S1 acc1 (by omega) (by omega) k1 k2 k3 k4
      | false =>
        have htr : t ∈ rm := by
          rw [hrm, List.mem_filter, List.mem_range, hb]
          exact ⟨by omega, rfl⟩
        obtain ⟨o1, o2⟩ := gr_or mask hm t ht7
        have her : rm.erase t = (List.range n).filter (fun x => !(mask ||| 2 ^ t).testBit x) := by
          rw [hrm]
          exact gr_erase (by rw [← hrm]; exact htr)
        obtain ⟨t1, t2, t3, t4, t5, t6, t7, t8, t9⟩ := k1.2.2.2.2.2.2.2.2.2.2 t ht7
        have hsn := hsn t
        obtain ⟨e1, he1⟩ : ∃ x, x = max fr (mi t) + (u + if 0 < p.length ∧ ki (gr_at p (p.length - 1)) ≠ ki t then c else 0) := ⟨_, rfl⟩
        obtain ⟨w1, hw1⟩ : ∃ x, x = w + (max fr (mi t) - mi t) * we t := ⟨_, rfl⟩
        rw [← he1, ← hw1] at hsn
        have hgo1 := gr_go_b (ki := ki) (tr := gr_at (p ++ [t])) hmi hwe hS.2.2.1 hS.2.2.2.1 (show (p ++ [t]).length ≤ 7 by simp; omega) (fun i hi => by
          rw [List.length_append, List.length_singleton] at hi
          by_cases e : i < p.length
          · rw [gr_at_lt e]
            have := hat i e
            omega
          · have e2 : i = p.length + 0 := by omega
            rw [e2, gr_at_ge]
            exact ht7)
        rw [hsn] at hgo1
        have f5 : gh_fr gr_CT S1 (gh_fI S1 23 p.length (nI t)) := gh_fr_fI (gh_fr_refl _ _) rfl
        have h5 : gr_RS (gh_fI S1 23 p.length (nI t)) n mi ki we u c := gr_RS_fr k1 (gh_fr_mono f5 gr_CW_CT)
        have h522 : ∀ k, k < n → (gh_fI S1 23 p.length (nI t)).1 22 k = nI (hv k) := fun k hk => by rw [gh_fI_1, if_neg (by omega)]; exact k2 k hk
        have h523 : ∀ i, i < p.length → (gh_fI S1 23 p.length (nI t)).1 23 i = S1.1 23 i := fun i hi => by rw [gh_fI_1, if_neg (by omega)]
        have h5r : gr_repC (gh_fI S1 23 p.length (nI t)) n acc1 := by
          cases acc1 with
          | none => exact (f5.1 18 10 |> fun _ => by show (gh_fI S1 23 p.length (nI t)).1 18 10 = _; rw [gh_fI_1, if_neg (by omega)]; exact k4)
          | some x => exact ⟨by rw [gh_fI_1, if_neg (by omega)]; exact k4.1, k4.2.1, fun k hk => by rw [gh_fI_1, if_neg (by omega)]; exact k4.2.2 k hk⟩
        have htk := gr_takes N k1 (tr := gr_at p) (d := p.length) (t := t) (by omega) ht7 (fun i hi => ⟨by have := hat i hi; omega, k3 i hi⟩)
        have hal := gr_atLeast (N := N) (hv := hv) hN o2 (f := e1) (by have := hgo1.1; omega) h5 h522 (fun k hk => by have := gr_hv_lt hh hk; omega)
        have hbd : ∀ l, l ∈ gr_ext m (rm.erase t) → (w1 : Int) + max (gr_in mi we u e1 (((List.range n).map hv).filter (fun x => !(mask ||| 2 ^ t).testBit x))) ((gr_once mi we e1 (((List.range n).map hv).filter (fun x => !(mask ||| 2 ^ t).testBit x)) : Nat) : Int) ≤ (gr_w mi ki we u c ((p ++ [t]) ++ l) : Int) := by
          intro l hl
          have hlp := gr_ext_perm m (rm.erase t) l (by rw [List.length_erase_of_mem htr]; omega) hl
          rw [her] at hlp
          have := gr_bound (mi := mi) (ki := ki) (we := we) (u := u) (c := c) (p := p ++ [t]) hh hlp
          rw [hsn] at this
          exact this
        have hmx : 0 ≤ max (gr_in mi we u e1 (((List.range n).map hv).filter (fun x => !(mask ||| 2 ^ t).testBit x))) ((gr_once mi we e1 (((List.range n).map hv).filter (fun x => !(mask ||| 2 ^ t).testBit x)) : Nat) : Int) := by omega
        obtain ⟨bd, hbdd⟩ : ∃ bd, bd = max (gr_in mi we u e1 (((List.range n).map hv).filter (fun x => !(mask ||| 2 ^ t).testBit x))) ((gr_once mi we e1 (((List.range n).map hv).filter (fun x => !(mask ||| 2 ^ t).testBit x)) : Nat) : Int) := ⟨_, rfl⟩
        rw [← hbdd] at hal hbd hmx
        have hbb : bd ≤ 120000 := by
          have hne := gr_ext_ne m (rm.erase t) (by rw [List.length_erase_of_mem htr]; omega)
          match hL : gr_ext m (rm.erase t), hne with
          | l :: L, _ =>
            have hml : l ∈ gr_ext m (rm.erase t) := by rw [hL]; exact List.mem_cons_self
            have h1 := hbd l hml
            have hlp := gr_ext_perm m (rm.erase t) l (by rw [List.length_erase_of_mem htr]; omega) hml
            have hll : l.length = m := by rw [hlp.length_eq, List.length_erase_of_mem htr]; omega
            have := gr_go_b (ki := ki) (tr := gr_at ((p ++ [t]) ++ l)) hmi hwe hS.2.2.1 hS.2.2.2.1 (show ((p ++ [t]) ++ l).length ≤ 7 by simp; omega) (fun i hi => by
              have hx : gr_at ((p ++ [t]) ++ l) i ∈ (p ++ [t]) ++ l := by
                unfold gr_at
                rw [List.getD_eq_getElem?_getD, List.getElem?_eq_getElem hi]
                exact List.getElem_mem hi
              rcases List.mem_append.mp hx with hx | hx
              · rcases List.mem_append.mp hx with hx | hx
                · obtain ⟨i', hi', e⟩ := List.getElem_of_mem hx
                  have := hat i' hi'
                  unfold gr_at at this
                  rw [List.getD_eq_getElem?_getD, List.getElem?_eq_getElem hi'] at this
                  have e2 : p[i'] < n := this
                  rw [e] at e2
                  omega
                · rw [List.mem_singleton.mp hx]
                  exact ht7
              · have := hlp.mem_iff.mp hx
                rw [her] at this
                have := List.mem_range.mp (List.mem_filter.mp this).1
                omega)
            unfold gr_w at h1
            omega
        rw [Bool.not_false, cond_true, if_pos rfl, List.flatMap_cons]
        have hsplit : gr_foldp mi ki we u c p ((gr_ext m (rm.erase t)).map (fun l => t :: l) ++ (((List.range' (t + 1) j).filter (fun t => !mask.testBit t)).flatMap fun t => (gr_ext m (rm.erase t)).map fun l => t :: l)) acc1 = gr_foldp mi ki we u c p (((List.range' (t + 1) j).filter (fun t => !mask.testBit t)).flatMap fun t => (gr_ext m (rm.erase t)).map fun l => t :: l) (gr_foldp mi ki we u c (p ++ [t]) (gr_ext m (rm.erase t)) acc1) := by
          rw [← gr_foldp_map]
          unfold gr_foldp
          rw [List.foldl_append]
        rw [hsplit, gh_ra_n ht7 (by decide), gq_bs, gq_bs, gh_ra_n ht7 (by decide), gq_bs, htk, gq_bs, gh_wa_n (by omega) (by decide), gq_bs, t1, t5, gq_max_n (by omega) (by omega), nI_add, pk_sub (by omega), pk_mul, nI_add, o1, ← he1, ← hw1, hal, gq_bs, nI_1]
        have hcont : ∀ (S2 : gh_St) (acc2 : Option (Nat × List Nat)), gh_fr gr_CT S1 S2 → (∀ i, i < p.length → S2.1 23 i = S1.1 23 i) → gr_repC S2 n acc2 → ∃ S', sX7_tryAll_151 N (sX7_tryAll_r N q) (sX7_tryAll_35 N (sX7_tryAll_r N q) fu) (nI p.length) (nI mask) (nI fr) (nI w) (nI t) S2 = some S' ∧ gr_repC S' n (gr_foldp mi ki we u c p (((List.range' (t + 1) j).filter (fun t => !mask.testBit t)).flatMap fun t => (gr_ext m (rm.erase t)).map fun l => t :: l) acc2) ∧ gh_fr gr_CT S1 S' ∧ (∀ i, i < p.length → S'.1 23 i = S1.1 23 i) := by
          intro S2 acc2 g1 g2 g3
          unfold sX7_tryAll_151
          rw [nI_1]
          obtain ⟨S', x1, x2, x3, x4⟩ := jh (t + 1) fu S2 acc2 (by omega) (by omega) (gr_RS_fr k1 (gh_fr_mono g1 gr_CW_CT)) (fun k hk => (g1.1 22 k rfl).trans (k2 k hk)) (fun i hi => (g2 i hi).trans (k3 i hi)) g3
          exact ⟨S', x1, x2, gh_fr_trans g1 x3, fun i hi => (x4 i hi).trans (g2 i hi)⟩
        have hrec : (∀ a o, acc1 = some (a, o) → w1 < a) → ∃ S', ((sX7_tryAll_r N q (nI (p.length + 1)) (nI (mask ||| 2 ^ t)) (nI e1) (nI w1) (gh_fI S1 23 p.length (nI t))).bind fun q7 => sX7_tryAll_151 N (sX7_tryAll_r N q) (sX7_tryAll_35 N (sX7_tryAll_r N q) fu) (nI p.length) (nI mask) (nI fr) (nI w) (nI t) q7) = some S' ∧ gr_repC S' n (gr_foldp mi ki we u c p (((List.range' (t + 1) j).filter (fun t => !mask.testBit t)).flatMap fun t => (gr_ext m (rm.erase t)).map fun l => t :: l) (gr_foldp mi ki we u c (p ++ [t]) (gr_ext m (rm.erase t)) acc1)) ∧ gh_fr gr_CT S1 S' ∧ (∀ i, i < p.length → S'.1 23 i = S1.1 23 i) := by
          intro hlt1
          have hpl : (p ++ [t]).length = p.length + 1 := by simp
          have hih := ih (p ++ [t]) (mask ||| 2 ^ t) (gh_fI S1 23 p.length (nI t)) acc1 (by omega) o2 (fun i hi => by
            by_cases e : i < p.length
            · rw [gr_at_lt e]
              exact hat i e
            · have e2 : i = p.length + 0 := by omega
              rw [e2, gr_at_ge]
              show t < n
              omega) (by rw [← her, List.length_erase_of_mem htr]; omega) h5 h522 hh (fun i hi => by
            by_cases e : i < p.length
            · rw [h523 i e, gr_at_lt e]
              exact k3 i e
            · have e2 : i = p.length + 0 := by omega
              rw [e2, gr_at_ge, gh_fI_1, if_pos ⟨rfl, rfl⟩]
              rfl) h5r (fun a o h => by rw [hsn]; exact hlt1 a o h)
          rw [hsn, hpl, ← her] at hih
          obtain ⟨S2, x1, x2, x3, x4⟩ := hih
          rw [x1, gq_bs]
          exact hcont S2 _ (gh_fr_trans f5 x3) (fun i hi => (x4 i (by omega)).trans (h523 i hi)) x2
        show ∃ S', (bif gh_cmp .ge (nI w1 + gq_Z bd) ((gh_fI S1 23 p.length (nI t)).1 18 10) then sX7_tryAll_151 N (sX7_tryAll_r N q) (sX7_tryAll_35 N (sX7_tryAll_r N q) fu) (nI p.length) (nI mask) (nI fr) (nI w) (nI t) (gh_fI S1 23 p.length (nI t)) else ((sX7_tryAll_r N q (nI (p.length + 1)) (nI (mask ||| 2 ^ t)) (nI e1) (nI w1) (gh_fI S1 23 p.length (nI t))).bind fun q7 => sX7_tryAll_151 N (sX7_tryAll_r N q) (sX7_tryAll_35 N (sX7_tryAll_r N q) fu) (nI p.length) (nI mask) (nI fr) (nI w) (nI t) q7)) = some S' ∧ _
        have hw1b := hgo1.2
        have hw1b : w1 ≤ 120000 := hw1b
        rw [← gq_Z_n w1, gq_Z_add]
        cases acc1 with
        | none =>
          rw [show (gh_fI S1 23 p.length (nI t)).1 18 10 = nI 1000000000 from h5r, ← gq_Z_n, gq_Z_ge (by omega) (by omega) (by omega) (by omega), decide_eq_false (by omega), cond_false, gq_Z_n]
          exact hrec (fun a o h => by cases h)
        | some x =>
          obtain ⟨a, o⟩ := x
          rw [h5r.1, ← gq_Z_n a, gq_Z_ge (by omega) (by omega) (by have := h5r.2.1; omega) (by have := h5r.2.1; omega)]
          by_cases hc : (a : Int) ≤ (w1 : Int) + bd
          · rw [decide_eq_true hc, cond_true, gr_foldp_no (gr_ext m (rm.erase t)) (fun l hl => by have := hbd l hl; omega)]
            exact hcont _ _ f5 h523 h5r
          · rw [decide_eq_false hc, cond_false, gq_Z_n]
            exact hrec (fun a' o' h => by
              have : a = a' := congrArg Prod.fst (Option.some.inj h)
              omega)
  rw [sX7_tryAll_r, sX7_tryAll, hS.2.2.2.2.1, gh_n_lt (by omega) (by omega), decide_eq_true (by omega), cond_true]
  obtain ⟨S', x1, x2, x3, x4⟩ := loop n 0 N S acc (by omega) (by omega) hS h22 h23 hrep
  rw [← List.range_eq_range', ← hrm] at x2
  exact ⟨S', x1, x2, x3, x4⟩
end GrDn
