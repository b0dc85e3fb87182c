/-! ===== TRUCKS: the reference's rush ===== -/
theorem gq_Z_gt {a b : Int} (h1 : -2147483648 ≤ a) (h2 : a < 2147483648) (h3 : -2147483648 ≤ b) (h4 : b < 2147483648) : gh_cmp .gt (gq_Z a) (gq_Z b) = decide (b < a) := by rw [gh_c_gt, gq_Z_toInt h1 h2, gq_Z_toInt h3 h4]
def gr_CE (c k : Nat) : Bool := Nat.beq c 56 && Nat.beq k 52
def gr_CQ (c k : Nat) : Bool := Nat.beq c 85 || Nat.beq c 86 || (Nat.beq c 56 && Nat.beq k 52)
theorem gr_CW_CQ : ∀ c k, gr_CQ c k = true → gr_CW c k = true := by
  intro c k h
  unfold gr_CQ at h
  unfold gr_CW
  simp only [Bool.or_eq_true, Bool.and_eq_true, Nat.beq_eq, Nat.ble_eq] at h ⊢
  omega
theorem gr_CQ_CE : ∀ c k, gr_CE c k = true → gr_CQ c k = true := by
  intro c k h
  unfold gr_CE at h
  unfold gr_CQ
  simp only [Bool.or_eq_true, Bool.and_eq_true, Nat.beq_eq, Nat.ble_eq] at h ⊢
  omega
theorem gr_CQ_85 : ∀ c k, (fun c _ => Nat.beq c 85) c k = true → gr_CQ c k = true := by
  intro c (k : Nat) (h : Nat.beq c 85 = true)
  unfold gr_CQ
  rw [h]
  rfl
/-- the kind before, as the reference keeps it -/
def gr_bf (ki tr : Nat → Nat) (k : Nat) : Int32 := if k = 0 then -1 else nI (ki (tr (k - 1)))
section GrE
variable {n : Nat} {mi ki we : Nat → Nat} {u c : Nat} (N : Nat)
theorem gr_e64 {S : gh_St} (hS : gr_RS S n mi ki we u c) (kc : Int32 → Int32 → Int32 → Int32 → Int32 → gh_St → Option (Int32 × gh_St)) (l1 l2 l5 : Int32) {tr : Nat → Nat} {k t b w : Nat} (hk : tr k = t) (hkk : k < 7) (ht : ∀ i, i ≤ k → tr i < 7) (hb : mi t ≤ b) (hw : S.1 56 52 = nI w) : sX10_emptyAt_64 N kc l1 l2 (gr_bf ki tr k) l5 (nI t) (nI b) S = kc l1 l2 (nI (b + (u + if 0 < k ∧ ki (tr (k - 1)) ≠ ki (tr k) then c else 0))) (nI (ki t)) (l5 + 1) (gh_fI S 56 52 (nI (w + (b - mi t) * we t))) := by
  obtain ⟨s1, s2, s3, s4, s5, s6, s7, s8, s9, s10, s11⟩ := hS
  have ht7 : t < 7 := by rw [← hk]; exact ht k (Nat.le_refl _)
  obtain ⟨t1, t2, t3, t4, t5, t6, t7, t8, t9⟩ := s11 t ht7
  unfold sX10_emptyAt_64
  rw [gh_ra_n ht7 (by decide), gq_bs, gh_ra_n ht7 (by decide), gq_bs, t2, t6, hw, pk_sub hb, pk_mul, nI_add]
  have r70 : ∀ x, gh_ra (gh_fI S 56 52 x) 70 7 (nI t) = some (nI (ki t)) := by
    intro x
    rw [gh_ra_n ht7 (by decide), gh_fI_1, if_neg (by omega), t4]
  have r23 : ∀ x, (gh_fI S 56 52 x).1 56 23 = nI u := by
    intro x
    rw [gh_fI_1, if_neg (by omega), s8]
  have r24 : ∀ x, (gh_fI S 56 52 x).1 56 24 = nI c := by
    intro x
    rw [gh_fI_1, if_neg (by omega), s10]
  unfold sX10_emptyAt_124 sX10_emptyAt_125
  simp only [r70, r23, r24, gq_bs]
  unfold gr_bf
  by_cases h0 : k = 0
  · subst h0
    rw [if_pos rfl, show gh_cmp .lt (-1) 0 = true from rfl, cond_true, if_neg (by omega), show (0 : Int32) = nI 0 from rfl, nI_add, nI_add]
    rfl
  · have hq := (s11 _ (ht (k - 1) (by omega))).2.2.2.2.2.2.2.1
    rw [if_neg h0, show gh_cmp .lt (nI (ki (tr (k - 1)))) 0 = decide (ki (tr (k - 1)) < 0) from gh_n_lt (b := 0) (by omega) (by omega), decide_eq_false (by omega), cond_false, gh_n_eq (by omega) (by omega), hk]
    by_cases e : ki (tr (k - 1)) = ki t
    · rw [decide_eq_true e, cond_true, if_neg (fun h => h.2 e), show (0 : Int32) = nI 0 from rfl, nI_add, nI_add]
      rfl
    · rw [decide_eq_false e, cond_false, if_pos ⟨by omega, e⟩, nI_add, nI_add, Nat.add_assoc]
theorem gr_e13 (md : Bool) {tr : Nat → Nat} {m : Nat} (hm : m ≤ 7) (ht : ∀ i, i < m → tr i < 7) : ∀ (fu k : Nat) (S : gh_St), gr_RS S n mi ki we u c → (∀ i, i < m → S.1 (bif md then 86 else 85) i = nI (tr i)) → k ≤ m → m - k < fu → S.1 56 52 = nI (gr_go mi ki we u c tr k).2 → ∃ S', sX10_emptyAt_13 N fu (gq_Z ((m : Int) - 1)) (gq_B md) (nI (gr_go mi ki we u c tr k).1) (gr_bf ki tr k) (nI k) S = some (nI (gr_go mi ki we u c tr m).1, S') ∧ S'.1 56 52 = nI (gr_go mi ki we u c tr m).2 ∧ gh_fr gr_CE S S' := by
  intro fu
  induction fu with
  | zero => intro k S _ _ _ h; omega
  | succ fu ih =>
    intro k S hS hrow hk hfu hw
    have hS' := hS
    obtain ⟨s1, s2, s3, s4, s5, s6, s7, s8, s9, s10, s11⟩ := hS
    have hcmp : gh_cmp .gt (nI k) (gq_Z ((m : Int) - 1)) = decide (k = m) := by
      rw [← gq_Z_n, gq_Z_gt (by omega) (by omega) (by omega) (by omega)]
      exact decide_eq_decide.mpr (by omega)
    rw [sX10_emptyAt_13, hcmp]
    by_cases e : k = m
    · subst e
      rw [decide_eq_true rfl]
      exact ⟨S, rfl, hw, gh_fr_refl _ _⟩
    · have ht7 := ht k (by omega)
      obtain ⟨t1, t2, t3, t4, t5, t6, t7, t8, t9⟩ := s11 _ ht7
      have hgo := gr_go_b (ki := ki) (fun k hk => (s11 k hk).2.2.2.2.2.2.1) (fun k hk => (s11 k hk).2.2.2.2.2.2.2.2) s3 s4 (show k ≤ 7 by omega) (fun j hj => ht j (by omega))
      have h40 : sX10_emptyAt_40 N (sX10_emptyAt_13 N fu) (gq_Z ((m : Int) - 1)) (gq_B md) (nI (gr_go mi ki we u c tr k).1) (gr_bf ki tr k) (nI k) (nI (tr k)) S = sX10_emptyAt_13 N fu (gq_Z ((m : Int) - 1)) (gq_B md) (nI (gr_go mi ki we u c tr (k + 1)).1) (gr_bf ki tr (k + 1)) (nI (k + 1)) (gh_fI S 56 52 (nI (gr_go mi ki we u c tr (k + 1)).2)) := by
        unfold sX10_emptyAt_40
        rw [gh_ra_n ht7 (by decide), gq_bs, gq_bs, t2, gh_n_le (by omega) (by omega)]
        have go : ∀ b, b = max (gr_go mi ki we u c tr k).1 (mi (tr k)) → sX10_emptyAt_64 N (sX10_emptyAt_13 N fu) (gq_Z ((m : Int) - 1)) (gq_B md) (gr_bf ki tr k) (nI k) (nI (tr k)) (nI b) S = sX10_emptyAt_13 N fu (gq_Z ((m : Int) - 1)) (gq_B md) (nI (gr_go mi ki we u c tr (k + 1)).1) (gr_bf ki tr (k + 1)) (nI (k + 1)) (gh_fI S 56 52 (nI (gr_go mi ki we u c tr (k + 1)).2)) := by
          intro b hb
          rw [gr_e64 N hS' _ _ _ _ rfl (by omega) (fun i hi => ht i (by omega)) (by omega) hw, nI_1, hb, gr_go]
          rw [show gr_bf ki tr (k + 1) = nI (ki (tr k)) from if_neg (by omega)]
        by_cases c1 : mi (tr k) ≤ (gr_go mi ki we u c tr k).1
        · rw [decide_eq_true c1, cond_true]
          exact go _ (Nat.max_eq_left c1).symm
        · rw [decide_eq_false c1, cond_false]
          exact go _ (Nat.max_eq_right (by omega)).symm
      have hrest : ∃ S', sX10_emptyAt_40 N (sX10_emptyAt_13 N fu) (gq_Z ((m : Int) - 1)) (gq_B md) (nI (gr_go mi ki we u c tr k).1) (gr_bf ki tr k) (nI k) (nI (tr k)) S = some (nI (gr_go mi ki we u c tr m).1, S') ∧ S'.1 56 52 = nI (gr_go mi ki we u c tr m).2 ∧ gh_fr gr_CE S S' := by
        rw [h40]
        have f1 : gh_fr gr_CE S (gh_fI S 56 52 (nI (gr_go mi ki we u c tr (k + 1)).2)) := gh_fr_fI (gh_fr_refl _ _) rfl
        obtain ⟨S', a1, a2, a3⟩ := ih (k + 1) (gh_fI S 56 52 (nI (gr_go mi ki we u c tr (k + 1)).2)) (gr_RS_fr hS' (gh_fr_mono f1 (fun c k h => gr_CW_CQ c k (gr_CQ_CE c k h)))) (fun i hi => by rw [gh_fI_1, if_neg (by cases md <;> simp)]; exact hrow i hi) (by omega) (by omega) (by rw [gh_fI_1, if_pos ⟨rfl, rfl⟩])
        exact ⟨S', a1, a2, gh_fr_trans f1 a3⟩
      rw [decide_eq_false e, cond_false, gq_B_eq]
      cases md with
      | true =>
        have r := hrow k (by omega)
        rw [cond_true] at r
        rw [Bool.not_true, cond_false, gh_ra_n (by omega) (by decide), gq_bs, r]
        exact hrest
      | false =>
        have r := hrow k (by omega)
        rw [cond_false] at r
        rw [Bool.not_false, cond_true, gh_ra_n (by omega) (by decide), gq_bs, r]
        exact hrest
theorem gr_emptyAt (hN : 100 ≤ N) (md : Bool) {S : gh_St} {tr : Nat → Nat} {m : Nat} (hm : m ≤ 7) (ht : ∀ i, i < m → tr i < 7) (hS : gr_RS S n mi ki we u c) (hrow : ∀ i, i < m → S.1 (bif md then 86 else 85) i = nI (tr i)) : ∃ S', sX10_emptyAt N (gq_Z ((m : Int) - 1)) (gq_B md) S = some (nI (gr_go mi ki we u c tr m).1, S') ∧ S'.1 56 52 = nI (gr_go mi ki we u c tr m).2 ∧ gh_fr gr_CE S S' := by
  have f1 : gh_fr gr_CE S (gh_fI S 56 52 0) := gh_fr_fI (gh_fr_refl _ _) rfl
  obtain ⟨S', a1, a2, a3⟩ := gr_e13 (n := n) (mi := mi) (ki := ki) (we := we) (u := u) (c := c) N md hm ht N 0 (gh_fI S 56 52 0) (gr_RS_fr hS (gh_fr_mono f1 (fun c k h => gr_CW_CQ c k (gr_CQ_CE c k h)))) (fun i hi => by rw [gh_fI_1, if_neg (by cases md <;> simp)]; exact hrow i hi) (by omega) (by omega) (by rw [gh_fI_1, if_pos ⟨rfl, rfl⟩]; rfl)
  exact ⟨S', a1, a2, gh_fr_trans f1 a3⟩
/-- what the reference holds as the best so far -/
def gr_rep (S : gh_St) (n : Nat) (l1 : Int32) (acc : Option (Nat × List Nat)) : Prop :=
  match acc with
  | none => l1 = 100000000
  | some (a, o) => l1 = nI a ∧ a ≤ 120000 ∧ ∀ k, k < n → S.1 86 k = nI (gr_at o k)
theorem gr_rush60 {kc : Int32 → Int32 → gh_St → Option (Int32 × gh_St)} {l1 : Int32} {l : List Nat} (hl : l.length = n) : ∀ (fu k : Nat) (S : gh_St), gr_RS S n mi ki we u c → gr_row S l → (∀ j, j < k → S.1 86 j = nI (gr_at l j)) → k ≤ n → n - k < fu → ∃ S', sX10_rush_60 N kc fu l1 (nI k) S = sX10_rush_89 N kc l1 S' ∧ gh_fr (fun c _ => Nat.beq c 86) S S' ∧ ∀ j, j < n → S'.1 86 j = nI (gr_at l j) := by
  intro fu
  induction fu with
  | zero => intro k S _ _ _ _ h; omega
  | succ fu ih =>
    intro k S hS hr hd hk hfu
    have hS' := hS
    obtain ⟨s1, s2, s3, s4, s5, s6, s7, s8, s9, s10, s11⟩ := hS
    rw [sX10_rush_60, s6, gh_n_ge (by omega) (by omega)]
    by_cases e : k = n
    · subst e
      rw [decide_eq_true (Nat.le_refl _)]
      exact ⟨S, rfl, gh_fr_refl _ _, hd⟩
    · rw [decide_eq_false (by omega), cond_false, gh_ra_n (by omega) (by decide), gq_bs, gh_wa_n (by omega) (by decide), gq_bs, hr k (by omega), nI_1]
      have f1 : gh_fr (fun c _ => Nat.beq c 86) S (gh_fI S 86 k (nI (gr_at l k))) := gh_fr_fI (gh_fr_refl _ _) rfl
      obtain ⟨S', a1, a2, a3⟩ := ih (k + 1) (gh_fI S 86 k (nI (gr_at l k))) (gr_RS_fr hS' (gh_fr_mono f1 (fun c k h => by rw [Nat.eq_of_beq_eq_true h]; rfl))) (fun j hj => by rw [gh_fI_1, if_neg (by omega)]; exact hr j hj) (fun j hj => by
        rw [gh_fI_1]
        by_cases e2 : j = k
        · rw [if_pos ⟨rfl, e2⟩, e2]
        · rw [if_neg (by omega)]
          exact hd j (by omega)) (by omega) (by omega)
      exact ⟨S', a1, gh_fr_trans f1 a2, a3⟩
theorem gr_rush28 (hN : 100 ≤ N) : ∀ (L : List (List Nat)) (l : List Nat) (fu : Nat) (acc : Option (Nat × List Nat)) (l1 : Int32) (S : gh_St), gr_chk n (l :: L) = true → (∀ l', l' ∈ l :: L → l'.length = n ∧ gr_sm7 l') → gr_RS S n mi ki we u c → gr_row S l → gr_rep S n l1 acc → L.length + 1 < fu → ∃ a o S', sX10_rush_28 N fu l1 1 S = some (nI a, S') ∧ (l :: L).foldl (gr_pick mi ki we u c) acc = some (a, o) ∧ (∀ k, k < n → S'.1 86 k = nI (gr_at o k)) ∧ gh_fr gr_CQ S S' := by
  intro L
  induction L with
  | nil => ?_
  | cons l' L ih => ?_
  all_goals
    intro l fu acc l1 S hck hall hS hr hrep hfu
    obtain ⟨fu, rfl⟩ : ∃ q, fu = q + 1 := ⟨fu - 1, by omega⟩
    obtain ⟨hl, hs7⟩ := hall l List.mem_cons_self
    have hS' := hS
    obtain ⟨s1, s2, s3, s4, s5, s6, s7, s8, s9, s10, s11⟩ := hS
    have en : nI n - 1 = gq_Z ((n : Int) - 1) := by
      rw [← gq_Z_n, show (1 : Int32) = gq_Z 1 from rfl, gq_Z_sub]
    obtain ⟨S1, a1, a2, a3⟩ := gr_emptyAt (n := n) (mi := mi) (ki := ki) (we := we) (u := u) (c := c) N hN false (tr := gr_at l) s1 (fun i hi => hs7 i (by omega)) hS' (fun i hi => hr i (by omega))
    have hgo := gr_go_b (ki := ki) (tr := gr_at l) (fun k hk => (s11 k hk).2.2.2.2.2.2.1) (fun k hk => (s11 k hk).2.2.2.2.2.2.2.2) s3 s4 s1 (fun j hj => hs7 j (by omega))
    have hW : (gr_go mi ki we u c (gr_at l) n).2 = gr_w mi ki we u c l := by unfold gr_w; rw [hl]
    rw [hW] at a2 hgo
    have f1 : gh_fr gr_CQ S S1 := gh_fr_mono a3 gr_CQ_CE
    have hr1 : gr_row S1 l := fun k hk => (a3.1 85 k rfl).trans (hr k hk)
    have hS1 : gr_RS S1 n mi ki we u c := gr_RS_fr hS' (gh_fr_mono f1 gr_CW_CQ)
    have h86 : ∀ k, S1.1 86 k = S.1 86 k := fun k => a3.1 86 k rfl
    have hbody : ∃ S2 l2, sX10_rush_28 N (fu + 1) l1 1 S = sX10_rush_89 N (sX10_rush_28 N fu) l2 S2 ∧ gh_fr gr_CQ S S2 ∧ gr_row S2 l ∧ gr_rep S2 n l2 (gr_pick mi ki we u c acc l) := by
      rw [sX10_rush_28, show gh_cmp .eq (1 : Int32) 0 = false from rfl, cond_false, s6, en, show (0 : Int32) = gq_B false from rfl, a1, gq_bs]
      show ∃ S2 l2, (bif gh_cmp .ge (S1.1 56 52) l1 then sX10_rush_89 N (sX10_rush_28 N fu) l1 S1 else sX10_rush_60 N (sX10_rush_28 N fu) N (S1.1 56 52) (gq_B false) S1) = _ ∧ _
      rw [a2]
      obtain ⟨S2, b1, b2, b3⟩ := gr_rush60 (n := n) (mi := mi) (ki := ki) (we := we) (u := u) (c := c) N (kc := sX10_rush_28 N fu) (l1 := nI (gr_w mi ki we u c l)) hl N 0 S1 hS1 hr1 (fun j hj => by omega) (by omega) (by omega)
      have f2 : gh_fr gr_CQ S S2 := gh_fr_trans f1 (gh_fr_mono b2 (fun c k h => by rw [Nat.eq_of_beq_eq_true h]; rfl))
      have hr2 : gr_row S2 l := fun k hk => (b2.1 85 k rfl).trans (hr1 k hk)
      have hnew : gr_rep S2 n (nI (gr_w mi ki we u c l)) (some (gr_w mi ki we u c l, l)) := ⟨rfl, hgo.2, b3⟩
      cases acc with
      | none =>
        rw [show l1 = nI 100000000 from hrep, gh_n_ge (by omega) (by omega), decide_eq_false (by omega), cond_false]
        exact ⟨S2, _, b1, f2, hr2, hnew⟩
      | some p =>
        obtain ⟨x, o⟩ := p
        obtain ⟨e1, e2, e3⟩ := hrep
        rw [e1, gh_n_ge (by omega) (by omega)]
        show ∃ S2 l2, _ ∧ _ ∧ _ ∧ gr_rep S2 n l2 (if gr_w mi ki we u c l < x then some (gr_w mi ki we u c l, l) else some (x, o))
        by_cases hc : gr_w mi ki we u c l < x
        · rw [decide_eq_false (by omega), cond_false, if_pos hc]
          exact ⟨S2, _, b1, f2, hr2, hnew⟩
        · rw [decide_eq_true (by omega), cond_true, if_neg hc]
          exact ⟨S1, _, rfl, f1, hr1, rfl, e2, fun k hk => (h86 k).trans (e3 k hk)⟩
    obtain ⟨S2, l2, g1, g2, g3, g4⟩ := hbody
    have hS2 : gr_RS S2 n mi ki we u c := gr_RS_fr hS' (gh_fr_mono g2 gr_CW_CQ)
    obtain ⟨b, S3, d1, d2, d3⟩ := gr_nextRow N g3 (by omega) hs7 (by rw [hl]; exact hS2.2.2.2.2.2.1) (by omega)
    rw [hl] at d3
    have f3 : gh_fr gr_CQ S S3 := gh_fr_trans g2 (gh_fr_mono d2 gr_CQ_85)
    have g1' : sX10_rush_28 N (fu + 1) l1 1 S = sX10_rush_28 N fu l2 (gq_B b) S3 := by
      rw [g1, sX10_rush_89, d1]
      rfl
    have h3 : gr_rep S3 n l2 (gr_pick mi ki we u c acc l) := by
      have e : ∀ k, S3.1 86 k = S2.1 86 k := fun k => d2.1 86 k rfl
      revert g4
      generalize gr_pick mi ki we u c acc l = acc'
      cases acc' with
      | none => exact id
      | some p => exact fun h => ⟨h.1, h.2.1, fun k hk => (e k).trans (h.2.2 k hk)⟩
    rw [g1', List.foldl_cons]
  · have e : gr_nx n l = none := Option.isNone_iff_eq_none.mp hck
    rw [e] at d3
    obtain ⟨fu, rfl⟩ : ∃ q, fu = q + 1 := ⟨fu - 1, by simp at hfu; omega⟩
    have d3 : b = false := d3
    rw [d3, sX10_rush_28]
    obtain ⟨x, o, hp⟩ : ∃ x o, gr_pick mi ki we u c acc l = some (x, o) := by
      cases acc with
      | none => exact ⟨_, _, rfl⟩
      | some p =>
        unfold gr_pick
        by_cases hc : gr_w mi ki we u c l < p.1
        · exact ⟨_, _, if_pos hc⟩
        · exact ⟨_, _, if_neg hc⟩
    rw [hp] at h3 ⊢
    exact ⟨x, o, S3, by rw [h3.1]; rfl, rfl, h3.2.2, f3⟩
  · unfold gr_chk at hck
    rw [Bool.and_eq_true] at hck
    have e : gr_nx n l = some l' := eq_of_beq hck.1
    rw [e] at d3
    obtain ⟨d4, d5, d6, d7⟩ := d3
    obtain ⟨a, o, S', k1, k2, k3, k4⟩ := ih l' fu (gr_pick mi ki we u c acc l) l2 S3 hck.2 (fun x hx => hall x (List.mem_cons_of_mem _ hx)) (gr_RS_fr hS' (gh_fr_mono f3 gr_CW_CQ)) d5 h3 (by simp at hfu; omega)
    rw [d4]
    exact ⟨a, o, S', k1, k2, k3, gh_fr_trans f3 k4⟩
theorem gr_rush2 : ∀ (fu k : Nat) (S : gh_St), gr_RS S n mi ki we u c → (∀ j, j < k → S.1 85 j = nI j) → k ≤ n → n - k < fu → ∃ S', sX10_rush_2 N fu (nI k) S = sX10_rush_28 N N 100000000 1 S' ∧ gh_fr (fun c _ => Nat.beq c 85) S S' ∧ ∀ j, j < n → S'.1 85 j = nI j := by
  intro fu
  induction fu with
  | zero => intro k S _ _ _ h; omega
  | succ fu ih =>
    intro k S hS hd hk hfu
    have hS' := hS
    obtain ⟨s1, s2, s3, s4, s5, s6, s7, s8, s9, s10, s11⟩ := hS
    rw [sX10_rush_2, s6, gh_n_ge (by omega) (by omega)]
    by_cases e : k = n
    · subst e
      rw [decide_eq_true (Nat.le_refl _)]
      exact ⟨S, rfl, gh_fr_refl _ _, hd⟩
    · rw [decide_eq_false (by omega), cond_false, gh_wa_n (by omega) (by decide), gq_bs, nI_1]
      have f1 : gh_fr (fun c _ => Nat.beq c 85) S (gh_fI S 85 k (nI k)) := gh_fr_fI (gh_fr_refl _ _) rfl
      obtain ⟨S', a1, a2, a3⟩ := ih (k + 1) (gh_fI S 85 k (nI k)) (gr_RS_fr hS' (gh_fr_mono f1 (fun c k h => by rw [Nat.eq_of_beq_eq_true h]; rfl))) (fun j hj => by
        rw [gh_fI_1]
        by_cases e2 : j = k
        · rw [if_pos ⟨rfl, e2⟩, e2]
        · rw [if_neg (by omega)]
          exact hd j (by omega)) (by omega) (by omega)
      exact ⟨S', a1, gh_fr_trans f1 a2, a3⟩
theorem gr_len_ext : ∀ n, n < 8 → (gr_ext n (List.range n)).length < 6000 := by decide +kernel
theorem gr_rushR (hN : 10000 ≤ N) {S : gh_St} (hS : gr_RS S n mi ki we u c) : ∃ a o S', sX10_rush N S = some (nI a, S') ∧ gr_best n mi ki we u c = some (a, o) ∧ (∀ k, k < n → S'.1 86 k = nI (gr_at o k)) ∧ gh_fr gr_CQ S S' := by
  have hn := hS.1
  unfold sX10_rush
  obtain ⟨S1, a1, a2, a3⟩ := gr_rush2 (n := n) (mi := mi) (ki := ki) (we := we) (u := u) (c := c) N N 0 S hS (fun j hj => by omega) (by omega) (by omega)
  have f1 := gh_fr_mono a2 gr_CQ_85
  have hne := gr_ext_ne n (List.range n) List.length_range
  have hck := gr_chk_all hn
  have hhd := gr_hd n (by omega)
  have hlen := gr_len_ext n (by omega)
  have hmem : ∀ l, l ∈ gr_ext n (List.range n) → l.length = n ∧ gr_sm7 l := by
    intro l hl
    have hp := gr_ext_perm n (List.range n) l List.length_range hl
    have h1 : l.length = n := by rw [hp.length_eq, List.length_range]
    refine ⟨h1, fun k hk => ?_⟩
    unfold gr_at
    rw [List.getD_eq_getElem?_getD, List.getElem?_eq_getElem hk]
    have := List.mem_range.mp (hp.mem_iff.mp (List.getElem_mem hk))
    show l[k] < 7
    omega
  unfold gr_best
  generalize gr_ext n (List.range n) = L at hne hck hhd hlen hmem
  match L, hne with
  | l :: L, _ =>
    have e : l = List.range n := Option.some.inj hhd
    obtain ⟨a, o, S', b1, b2, b3, b4⟩ := gr_rush28 (n := n) (mi := mi) (ki := ki) (we := we) (u := u) (c := c) N (by omega) L l N none 100000000 S1 hck hmem (gr_RS_fr hS (gh_fr_mono f1 gr_CW_CQ)) (fun k hk => by
      rw [e, List.length_range] at hk
      rw [a3 k hk, e]
      unfold gr_at
      rw [List.getD_eq_getElem?_getD, List.getElem?_range hk]
      rfl) rfl (by simp at hlen; omega)
    rw [show (0 : Int32) = nI 0 from rfl, a1]
    exact ⟨a, o, S', b1, b2, b3, gh_fr_trans f1 b4⟩
end GrE
