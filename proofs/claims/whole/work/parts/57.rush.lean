/-! ===== rush, served ===== -/
section GrW
variable {n : Nat} {mi ki we : Nat → Nat} {u c : Nat} {hv : Nat → Nat} (N : Nat)
theorem gr_Dall (hN : 100 ≤ N) : ∀ (m q : Nat), m < q → gr_D N n mi ki we u c hv m q := by
  intro m
  induction m with
  | zero =>
    intro q hq
    obtain ⟨q, rfl⟩ : ∃ x, q = x + 1 := ⟨q - 1, by omega⟩
    exact gr_D0 N
  | succ m ih =>
    intro q hq
    obtain ⟨q, rfl⟩ : ∃ x, q = x + 1 := ⟨q - 1, by omega⟩
    exact gr_Dn N hN (ih q (by omega))
def gr_CS (c _k : Nat) : Bool := Nat.beq c 23 || Nat.beq c 25
theorem gr_CW_CS : ∀ c k, gr_CS c k = true → gr_CW c k = true := by
  intro c k h
  unfold gr_CS at h
  unfold gr_CW
  simp only [Bool.or_eq_true, Bool.and_eq_true, Nat.beq_eq, Nat.ble_eq] at h ⊢
  omega
theorem gr_setE {tr : Nat → Nat} (ht : ∀ i, i < n → tr i < 7) : ∀ (fu k : Nat) (S : gh_St), gr_RS S n mi ki we u c → (∀ i, i < n → S.1 24 i = nI (tr i)) → (∀ i, i < k → S.1 23 i = nI (tr i) ∧ S.1 25 i = nI (gr_go mi ki we u c tr (i + 1)).1) → k ≤ n → n - k < fu → ∃ S', sX7_setEmpty_4 N fu (nI (gr_go mi ki we u c tr k).1) (nI k) S = some S' ∧ gh_fr gr_CS S S' ∧ ∀ i, i < n → S'.1 25 i = nI (gr_go mi ki we u c tr (i + 1)).1 := by
  intro fu
  induction fu with
  | zero => intro k S _ _ _ _ h; omega
  | succ fu ih =>
    intro k S hS h24 hd hk hfu
    have hS' := hS
    obtain ⟨s1, s2, s3, s4, s5, s6, s7, s8, s9, s10, s11⟩ := hS
    rw [sX7_setEmpty_4, s5, gh_n_ge (by omega) (by omega)]
    by_cases e : k = n
    · subst e
      rw [decide_eq_true (Nat.le_refl _)]
      exact ⟨S, rfl, gh_fr_refl _ _, fun i hi => (hd i hi).2⟩
    · have ht7 := ht k (by omega)
      have hgo := gr_go_b (ki := ki) (fun k hk => (s11 k hk).2.2.2.2.2.2.1) (fun k hk => (s11 k hk).2.2.2.2.2.2.2.2) s3 s4 (show k ≤ 7 by omega) (fun j hj => ht j (by omega))
      have hmt := (s11 _ ht7).2.2.2.2.2.2.1
      have f1 : gh_fr gr_CS S (gh_fI S 23 k (nI (tr k))) := gh_fr_fI (gh_fr_refl _ _) rfl
      have hS1 : gr_RS (gh_fI S 23 k (nI (tr k))) n mi ki we u c := gr_RS_fr hS' (gh_fr_mono f1 gr_CW_CS)
      have htk := gr_takes N hS1 (tr := tr) (d := k) (t := tr k) (by omega) ht7 (fun i hi => ⟨ht i (by omega), by rw [gh_fI_1, if_neg (by omega)]; exact (hd i hi).1⟩)
      rw [decide_eq_false (by omega), cond_false, gh_ra_n (by omega) (by decide), gq_bs, h24 k (by omega), gh_wa_n (by omega) (by decide), gq_bs, gh_ra_n ht7 (by decide), gq_bs, htk, gq_bs, gh_wa_n (by omega) (by decide), gq_bs, (hS1.2.2.2.2.2.2.2.2.2.2 _ ht7).1, gq_max_n (by omega) (by omega), nI_add, nI_1]
      have hg : max (gr_go mi ki we u c tr k).1 (mi (tr k)) + (u + if 0 < k ∧ ki (tr (k - 1)) ≠ ki (tr k) then c else 0) = (gr_go mi ki we u c tr (k + 1)).1 := rfl
      show ∃ S', sX7_setEmpty_4 N fu (nI (max (gr_go mi ki we u c tr k).1 (mi (tr k)) + (u + if 0 < k ∧ ki (tr (k - 1)) ≠ ki (tr k) then c else 0))) (nI (k + 1)) (gh_fI (gh_fI S 23 k (nI (tr k))) 25 k (nI (max (gr_go mi ki we u c tr k).1 (mi (tr k)) + (u + if 0 < k ∧ ki (tr (k - 1)) ≠ ki (tr k) then c else 0)))) = _ ∧ _
      rw [hg]
      have f2 : gh_fr gr_CS S (gh_fI (gh_fI S 23 k (nI (tr k))) 25 k (nI (gr_go mi ki we u c tr (k + 1)).1)) := gh_fr_fI f1 rfl
      obtain ⟨S', a1, a2, a3⟩ := ih (k + 1) (gh_fI (gh_fI S 23 k (nI (tr k))) 25 k (nI (gr_go mi ki we u c tr (k + 1)).1)) (gr_RS_fr hS' (gh_fr_mono f2 gr_CW_CS)) (fun i hi => by rw [gh_fI_1, if_neg (by omega), gh_fI_1, if_neg (by omega)]; exact h24 i hi) (fun i hi => by
        simp only [gh_fI_1]
        by_cases e2 : i = k
        · simp [e2]
        · simp [e2]
          exact hd i (by omega)) (by omega) (by omega)
      exact ⟨S', a1, gh_fr_trans f2 a2, a3⟩
theorem gr_best_fold : gr_best n mi ki we u c = gr_foldp mi ki we u c [] (gr_ext n (List.range n)) none := by
  unfold gr_best gr_foldp
  rfl
theorem gr_best_lt {a : Nat} {o : List Nat} (h : gr_best n mi ki we u c = some (a, o)) : o.length = n ∧ ∀ i, i < n → gr_at o i < n := by
  obtain ⟨a', o', h1, h2, h3⟩ := gr_best_some (n := n) (mi := mi) (ki := ki) (we := we) (u := u) (c := c)
  rw [h] at h1
  obtain ⟨rfl, rfl⟩ := Prod.mk.inj (Option.some.inj h1)
  have hp := gr_ext_perm n (List.range n) o List.length_range h2
  have hl : o.length = n := by rw [hp.length_eq, List.length_range]
  refine ⟨hl, fun k hk => ?_⟩
  unfold gr_at
  rw [List.getD_eq_getElem?_getD, List.getElem?_eq_getElem (by omega)]
  exact List.mem_range.mp (hp.mem_iff.mp (List.getElem_mem (by omega)))
theorem gr_waits (hN : 100 ≤ N) {S : gh_St} {kn : Bool} (hS : gr_RS S n mi ki we u c) (h22 : ∀ k, k < n → S.1 22 k = nI (hv k)) (hh : gr_hv we hv n) (h11 : S.1 18 11 = gq_B kn) (hk : kn = true → gr_kn S n mi ki we u c) : ∃ a o S1, sX7_waits N S = some (nI a, S1) ∧ gr_best n mi ki we u c = some (a, o) ∧ gh_fr gr_CW S S1 ∧ S1.1 18 11 = gq_B true ∧ S1.1 18 10 = nI a ∧ (∀ k, k < n → S1.1 24 k = nI (gr_at o k)) ∧ (∀ k, k < n → S1.1 25 k = nI (gr_go mi ki we u c (gr_at o) (k + 1)).1) := by
  unfold sX7_waits
  rw [h11, gq_B_ne]
  cases kn with
  | true =>
    obtain ⟨a, o, b1, b2, b3, b4⟩ := hk rfl
    refine ⟨a, o, S, ?_, b1, gh_fr_refl _ _, h11, b2, b3, b4⟩
    rw [cond_true]
    unfold sX7_waits_30
    rw [b2]
  | false =>
    rw [cond_false]
    have f0 : gh_fr gr_CW S (gh_fI S 18 10 1000000000) := gh_fr_fI (gh_fr_refl _ _) rfl
    have hS0 := gr_RS_fr hS f0
    have hfl : (List.range n).filter (fun t => !(0 : Nat).testBit t) = List.range n := by
      refine List.filter_eq_self.mpr (fun x _ => ?_)
      simp
    obtain ⟨S1, a1, a2, a3, -⟩ := gr_Dall (n := n) (mi := mi) (ki := ki) (we := we) (u := u) (c := c) (hv := hv) N hN n 10 (by have := hS.1; omega) [] 0 (gh_fI S 18 10 1000000000) none (by simp) (by decide) (fun i hi => absurd hi (Nat.not_lt_zero _)) (by rw [hfl, List.length_range]) hS0 (fun k hk => by rw [gh_fI_1, if_neg (by omega)]; exact h22 k hk) hh (fun i hi => absurd hi (Nat.not_lt_zero _)) (by show (gh_fI S 18 10 1000000000).1 18 10 = _; rw [gh_fI_1, if_pos ⟨rfl, rfl⟩]; rfl) (fun a o h => by cases h)
    rw [hfl, ← gr_best_fold] at a2
    have a1' : tX7_tryAll N 0 0 0 0 (gh_fI S 18 10 1000000000) = some S1 := a1
    obtain ⟨a, o, hb, -, -⟩ := gr_best_some (n := n) (mi := mi) (ki := ki) (we := we) (u := u) (c := c)
    rw [hb] at a2
    have f1 : gh_fr gr_CW S S1 := gh_fr_trans f0 (gh_fr_mono a3 gr_CW_CT)
    obtain ⟨hol, hot⟩ := gr_best_lt hb
    obtain ⟨S2, b1, b2, b3⟩ := gr_setE (n := n) (mi := mi) (ki := ki) (we := we) (u := u) (c := c) N (tr := gr_at o) (fun i hi => by have := hot i hi; have := hS.1; omega) N 0 S1 (gr_RS_fr hS f1) a2.2.2 (fun i hi => absurd hi (Nat.not_lt_zero _)) (by omega) (by have := hS.1; omega)
    have b1' : sX7_setEmpty N S1 = some S2 := b1
    have e10 : (gh_fI S2 18 11 1).1 18 10 = nI a := by
      rw [gh_fI_1, if_neg (by omega), b2.1 18 10 rfl]
      exact a2.1
    refine ⟨a, o, gh_fI S2 18 11 1, ?_, hb, gh_fr_fI (gh_fr_trans f1 (gh_fr_mono b2 gr_CW_CS)) rfl, by rw [gh_fI_1, if_pos ⟨rfl, rfl⟩]; rfl, e10, fun k hk => ?_, fun k hk => ?_⟩
    · rw [a1', gq_bs, b1', gq_bs]
      unfold sX7_waits_30
      rw [e10]
    · rw [gh_fI_1, if_neg (by omega), b2.1 24 k rfl]
      exact a2.2.2 k hk
    · rw [gh_fI_1, if_neg (by omega)]
      exact b3 k hk
end GrW
theorem gr_CW_22 {S S' : gh_St} (h : gh_fr gr_CW S S') (k : Nat) : S'.1 22 k = S.1 22 k := h.1 22 k rfl
theorem gr_rush {S : gh_St} (N : Nat) (hN : 10000 ≤ N) (hR : gr_R S) : gq_P (sX9_rush N) (sX10_rush N) gr_C gr_R S := by
  obtain ⟨n, mi, ki, we, u, c, hv, kn, hS, h22, hh, h11, hk⟩ := hR
  obtain ⟨a, o, S1, a1, a2, a3, a4, a5, a6, a7⟩ := gr_waits N (by omega) hS h22 hh h11 hk
  obtain ⟨a', o', S2, b1, b2, b3, b4⟩ := gr_rushR N hN (gr_RS_fr hS a3)
  rw [a2] at b2
  obtain ⟨rfl, rfl⟩ := Prod.mk.inj (Option.some.inj b2)
  have f2 : gh_fr gr_CW S S2 := gh_fr_trans a3 (gh_fr_mono b4 gr_CW_CQ)
  refine ⟨nI a, S1, S2, by simp only [sX9_rush, a1, gq_bs], b1, ⟨n, mi, ki, we, u, c, hv, true, gr_RS_fr hS f2, fun k hk => (gr_CW_22 f2 k).trans (h22 k hk), hh, (b4.1 18 11 rfl).trans a4, fun _ => ⟨a, o, a2, (b4.1 18 10 rfl).trans a5, fun k hk => (b4.1 24 k rfl).trans (a6 k hk), fun k hk => (b4.1 25 k rfl).trans (a7 k hk)⟩⟩, gh_fr_mono f2 gr_C_CW⟩
theorem gr_served {S : gh_St} (N : Nat) (hN : 10000 ≤ N) (a1 a2 : Int32) (hR : gr_R S) : gq_P (sX9_served N a1 a2) (sX10_served N a1 a2) gr_C gr_R S := by
  obtain ⟨n, mi, ki, we, u, c, hv, kn, hS, h22, hh, h11, hk⟩ := hR
  have hR : gr_R S := ⟨n, mi, ki, we, u, c, hv, kn, hS, h22, hh, h11, hk⟩
  have hn := hS.1
  have en : nI n - 1 = gq_Z ((n : Int) - 1) := by
    rw [← gq_Z_n, show (1 : Int32) = gq_Z 1 from rfl, gq_Z_sub]
  have et : (gq_Z ((n : Int) - 1)).toInt = (n : Int) - 1 := gq_Z_toInt (by omega) (by omega)
  cases h1 : gh_rg a1.toInt 0 ((n : Int) - 1) with
  | false => exact gq_P0 (-1) (by simp only [sX9_served, gq_bs, gq_B_eq, gq_B_ne, gq_B_gB, Bool.not_true, Bool.not_false, Bool.true_and, Bool.false_and, Bool.and_true, Bool.and_false, cond_true, cond_false, gh_isBin9, gh_isKind9, gh_isFarmer9, gh_within, gh_inR, gh_isBin10, gh_isKind10, Int32.toInt_toInt64, Int32.reduceToInt, Int64.reduceToInt, decide_true, decide_false, hS.2.2.2.2.1, en, et, h1]) (by simp only [sX10_served, gq_bs, gq_B_eq, gq_B_ne, gq_B_gB, Bool.not_true, Bool.not_false, Bool.true_and, Bool.false_and, Bool.and_true, Bool.and_false, cond_true, cond_false, gh_isBin9, gh_isKind9, gh_isFarmer9, gh_within, gh_inR, gh_isBin10, gh_isKind10, Int32.toInt_toInt64, Int32.reduceToInt, Int64.reduceToInt, decide_true, decide_false, hS.2.2.2.2.2.1, en, et, h1]) hR
  | true =>
  obtain ⟨i, -, rfl, -, hi, -⟩ := gh_rgN h1 (by decide)
  obtain ⟨a, o, S1, d1, d2, d3, d4, d5, d6, d7⟩ := gr_waits N (by omega) hS h22 hh h11 hk
  obtain ⟨hol, hot⟩ := gr_best_lt d2
  have hRS1 := gr_RS_fr hS d3
  have hR1 : ∀ S2, gh_fr gr_CQ S1 S2 → gr_R S2 ∧ gh_fr gr_C S S2 := by
    intro S2 b4
    have f2 : gh_fr gr_CW S S2 := gh_fr_trans d3 (gh_fr_mono b4 gr_CW_CQ)
    exact ⟨⟨n, mi, ki, we, u, c, hv, true, gr_RS_fr hS f2, fun k hk => (gr_CW_22 f2 k).trans (h22 k hk), hh, (b4.1 18 11 rfl).trans d4, fun _ => ⟨a, o, d2, (b4.1 18 10 rfl).trans d5, fun k hk => (b4.1 24 k rfl).trans (d6 k hk), fun k hk => (b4.1 25 k rfl).trans (d7 k hk)⟩⟩, gh_fr_mono f2 gr_C_CW⟩
  obtain ⟨a', o', S2, b1, b2, b3, b4⟩ := gr_rushR N hN hRS1
  rw [d2] at b2
  obtain ⟨rfl, rfl⟩ := Prod.mk.inj (Option.some.inj b2)
  have ra : ∀ (T : gh_St) c, gh_ra T c 7 (nI i) = some (T.1 c i) := fun T c => gh_ra_n (by omega) (by decide)
  by_cases h20 : a2 = 0
  · subst h20
    obtain ⟨r1, r2⟩ := hR1 S2 b4
    refine ⟨nI (gr_at o i), S1, S2, ?_, ?_, r1, r2⟩
    · simp only [sX9_served, gq_bs, gq_B_eq, gq_B_ne, gq_B_gB, Bool.not_true, Bool.not_false, Bool.true_and, Bool.false_and, Bool.and_true, Bool.and_false, cond_true, cond_false, gh_isBin9, gh_isKind9, gh_isFarmer9, gh_within, gh_inR, gh_isBin10, gh_isKind10, Int32.toInt_toInt64, Int32.reduceToInt, Int64.reduceToInt, decide_true, decide_false, hS.2.2.2.2.1, en, et, h1, d1, show gh_cmp .eq (0 : Int32) 0 = true from rfl, ra, d6 i (by omega)]
    · simp only [sX10_served, gq_bs, gq_B_eq, gq_B_ne, gq_B_gB, Bool.not_true, Bool.not_false, Bool.true_and, Bool.false_and, Bool.and_true, Bool.and_false, cond_true, cond_false, gh_isBin9, gh_isKind9, gh_isFarmer9, gh_within, gh_inR, gh_isBin10, gh_isKind10, Int32.toInt_toInt64, Int32.reduceToInt, Int64.reduceToInt, decide_true, decide_false, hRS1.2.2.2.2.2.1, en, et, h1, show gh_rg 0 0 1 = true from rfl, b1, show gh_cmp .ne (0 : Int32) 0 = false from rfl, ra, b3 i (by omega)]
  · by_cases h21 : a2 = 1
    · subst h21
      obtain ⟨S3, e1, e2, e3⟩ := gr_emptyAt (n := n) (mi := mi) (ki := ki) (we := we) (u := u) (c := c) N (by omega) true (tr := gr_at o) (m := i + 1) (by omega) (fun j hj => by have := hot j (by omega); omega) (gr_RS_fr hRS1 (gh_fr_mono b4 gr_CW_CQ)) (fun j hj => b3 j (by omega))
      have ei : gq_Z (((i + 1 : Nat) : Int) - 1) = nI i := by
        rw [← gq_Z_n]
        exact congrArg gq_Z (by omega)
      rw [ei] at e1
      have e1' : sX10_emptyAt N (nI i) 1 S2 = some (nI (gr_go mi ki we u c (gr_at o) (i + 1)).1, S3) := e1
      obtain ⟨r1, r2⟩ := hR1 S3 (gh_fr_trans b4 (gh_fr_mono e3 gr_CQ_CE))
      refine ⟨nI (gr_go mi ki we u c (gr_at o) (i + 1)).1, S1, S3, ?_, ?_, r1, r2⟩
      · simp only [sX9_served, gq_bs, gq_B_eq, gq_B_ne, gq_B_gB, Bool.not_true, Bool.not_false, Bool.true_and, Bool.false_and, Bool.and_true, Bool.and_false, cond_true, cond_false, gh_isBin9, gh_isKind9, gh_isFarmer9, gh_within, gh_inR, gh_isBin10, gh_isKind10, Int32.toInt_toInt64, Int32.reduceToInt, Int64.reduceToInt, decide_true, decide_false, hS.2.2.2.2.1, en, et, h1, d1, show gh_cmp .eq (1 : Int32) 0 = false from rfl, show gh_cmp .eq (1 : Int32) 1 = true from rfl, ra, d7 i (by omega)]
      · simp only [sX10_served, gq_bs, gq_B_eq, gq_B_ne, gq_B_gB, Bool.not_true, Bool.not_false, Bool.true_and, Bool.false_and, Bool.and_true, Bool.and_false, cond_true, cond_false, gh_isBin9, gh_isKind9, gh_isFarmer9, gh_within, gh_inR, gh_isBin10, gh_isKind10, Int32.toInt_toInt64, Int32.reduceToInt, Int64.reduceToInt, decide_true, decide_false, hRS1.2.2.2.2.2.1, en, et, h1, show gh_rg 1 0 1 = true from rfl, b1, show gh_cmp .ne (1 : Int32) 0 = true from rfl, e1']
    · have t0 : a2.toInt ≠ 0 := fun h => h20 (Int32.toInt_inj.mp h)
      have t1 : a2.toInt ≠ 1 := fun h => h21 (Int32.toInt_inj.mp h)
      have c0 : gh_cmp .eq a2 0 = false := by rw [gh_c_eq]; exact decide_eq_false t0
      have c1 : gh_cmp .eq a2 1 = false := by rw [gh_c_eq]; exact decide_eq_false t1
      have c2 : gh_rg a2.toInt 0 1 = false := gh_rg_not.mpr (by omega)
      obtain ⟨r1, r2⟩ := hR1 S1 (gh_fr_refl _ _)
      refine ⟨-1, S1, S1, ?_, ?_, r1, r2⟩
      · simp only [sX9_served, gq_bs, gq_B_eq, gq_B_ne, gq_B_gB, Bool.not_true, Bool.not_false, Bool.true_and, Bool.false_and, Bool.and_true, Bool.and_false, cond_true, cond_false, gh_isBin9, gh_isKind9, gh_isFarmer9, gh_within, gh_inR, gh_isBin10, gh_isKind10, Int32.toInt_toInt64, Int32.reduceToInt, Int64.reduceToInt, decide_true, decide_false, hS.2.2.2.2.1, en, et, h1, d1, c0, c1]
      · simp only [sX10_served, gq_bs, gq_B_eq, gq_B_ne, gq_B_gB, Bool.not_true, Bool.not_false, Bool.true_and, Bool.false_and, Bool.and_true, Bool.and_false, cond_true, cond_false, gh_isBin9, gh_isKind9, gh_isFarmer9, gh_within, gh_inR, gh_isBin10, gh_isKind10, Int32.toInt_toInt64, Int32.reduceToInt, Int64.reduceToInt, decide_true, decide_false, hRS1.2.2.2.2.2.1, en, et, h1, c2]
