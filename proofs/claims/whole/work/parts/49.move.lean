/-! ===== move, dry ===== -/
def gq_C12 (c k : Nat) : Bool := gq_C1 c k || gq_C2 c k
def gq_C1b (c _k : Nat) : Bool := Nat.ble c 10 || (Nat.ble 57 c && Nat.ble c 64)
theorem gq_C12_2 (c k : Nat) (h : gq_C2 c k = true) : gq_C12 c k = true := by
  unfold gq_C12
  rw [h]
  simp
theorem gq_C12_F (c k : Nat) (h : gq_CF c k = true) : gq_C12 c k = true := gq_C12_2 c k (gq_C2_CF c k h)
/-- bins, loads, house: kept where C leaves their places -/
theorem gq_RBb_fr {S S' : gh_St} {kd kg rm g : Nat → Nat} {C : Nat → Nat → Bool} (h : gq_RBb S kd kg rm g) (hf : gh_fr C S S') (h2 : ∀ b, C 2 b = false) (h3 : ∀ b, C 3 b = false) (h4 : ∀ b, C 4 b = false) (h5 : ∀ b, C 5 b = false) (h57 : ∀ b, C 57 b = false) (h58 : ∀ b, C 58 b = false) (h59 : ∀ b, C 59 b = false) (h60 : ∀ b, C 60 b = false) : gq_RBb S' kd kg rm g := by
  intro b hb
  rw [hf.1 2 b (h2 b), hf.1 3 b (h3 b), hf.1 4 b (h4 b), hf.1 57 b (h57 b), hf.1 58 b (h58 b), hf.1 59 b (h59 b), hf.2.1 5 b (h5 b), hf.2.1 60 b (h60 b)]
  exact h b hb
theorem gq_RL_fr {S S' : gh_St} {n : Nat} {fa ki mo gr : Nat → Nat} {C : Nat → Nat → Bool} (h : gq_RL S n fa ki mo gr) (hf : gh_fr C S S') (h6 : C 6 4 = false) (h56 : C 56 4 = false) (hc : ∀ c k, (7 ≤ c ∧ c ≤ 10) ∨ (61 ≤ c ∧ c ≤ 64) → C c k = false) : gq_RL S' n fa ki mo gr := by
  obtain ⟨h1, h2, h3, h4⟩ := h
  refine ⟨h1, by rw [hf.1 6 4 h6]; exact h2, by rw [hf.1 56 4 h56]; exact h3, fun k hk => ?_⟩
  rw [hf.1 7 k (hc 7 k (by omega)), hf.1 8 k (hc 8 k (by omega)), hf.1 9 k (hc 9 k (by omega)), hf.1 10 k (hc 10 k (by omega)), hf.1 61 k (hc 61 k (by omega)), hf.1 62 k (hc 62 k (by omega)), hf.1 63 k (hc 63 k (by omega)), hf.2.1 64 k (hc 64 k (by omega))]
  exact h4 k hk
theorem gq_RH_fr {S S' : gh_St} {C : Nat → Nat → Bool} (h : gq_RH S) (hf : gh_fr C S S') (h0 : ∀ k, C 0 k = false) (h16 : C 56 16 = false) (h17 : C 56 17 = false) (h18 : C 56 18 = false) : gq_RH S' := by
  unfold gq_RH at h ⊢
  rw [hf.2.1 0 10 (h0 10), hf.2.1 0 11 (h0 11), hf.2.1 0 12 (h0 12), hf.2.1 56 16 h16, hf.2.1 56 17 h17, hf.2.1 56 18 h18]
  exact h
theorem gq_R1_C2 {S S' : gh_St} (h : gq_R1 S) (hf : gh_fr gq_C2 S S') : gq_R1 S' := by
  obtain ⟨n, kd, kg, rm, g, fa, ki, mo, gr, hB, hL, hH⟩ := h
  have hc : ∀ c k, (7 ≤ c ∧ c ≤ 10) ∨ (61 ≤ c ∧ c ≤ 64) → gq_C2 c k = false := by
    intro c k hck
    cases e : gq_C2 c k with
    | false => rfl
    | true =>
      unfold gq_C2 at e
      simp only [Bool.or_eq_true, Bool.and_eq_true, Nat.beq_eq, Nat.ble_eq] at e
      omega
  exact ⟨n, kd, kg, rm, g, fa, ki, mo, gr, ⟨gq_RBb_fr (S := S) hB.1 hf (fun _ => rfl) (fun _ => rfl) (fun _ => rfl) (fun _ => rfl) (fun _ => rfl) (fun _ => rfl) (fun _ => rfl) (fun _ => rfl), hB.2⟩, gq_RL_fr hL hf rfl rfl hc, gq_RH_fr hH hf (fun _ => rfl) rfl rfl rfl⟩
def gq_R12 (j : Nat) (S : gh_St) : Prop := gq_R1 S ∧ gq_R2 j S
theorem gq_R12_C2 {S S' : gh_St} {j : Nat} (h : gq_R1 S) (h2 : gq_R2 j S') (hf : gh_fr gq_C2 S S') : gq_R12 (j + 1) S' := ⟨gq_R1_C2 h hf, gq_R2_mono h2 (by omega)⟩
/-- S2 is S, but that m kg with x grams left bin a, and c kg with x grams came into bin b (kind q) -/
theorem gq_mv_RB {S S2 : gh_St} {n : Nat} {kd kg rm g : Nat → Nat} {a b m c x : Nat} (h : gq_RB S n kd kg rm g) (ha : a < 8) (hb : b < 8) (hab : a ≠ b) (hm : m ≤ kg a) (hx : x ≤ g a) (hc : kg b + c ≤ rm b)
    (e4 : ∀ i, S2.1 4 i = S.1 4 i) (e57 : ∀ i, S2.1 57 i = S.1 57 i)
    (e2 : ∀ i, S2.1 2 i = if i = b then nI (kd a) else S.1 2 i) (e58 : ∀ i, S2.1 58 i = if i = b then nI (kd a) else S.1 58 i)
    (e3 : ∀ i, S2.1 3 i = if i = b then nI (kg b + c) else if i = a then nI (kg a - m) else S.1 3 i) (e59 : ∀ i, S2.1 59 i = if i = b then nI (kg b + c) else if i = a then nI (kg a - m) else S.1 59 i)
    (e5 : ∀ i, S2.2.1 5 i = if i = b then lN (g b + x) else if i = a then lN (g a - x) else S.2.1 5 i) (e60 : ∀ i, S2.2.1 60 i = if i = b then lN (g b + x) else if i = a then lN (g a - x) else S.2.1 60 i) :
    gq_RB S2 n (gh_nu kd b (kd a)) (gh_nu (gh_nu kg a (kg a - m)) b (kg b + c)) rm (gh_nu (gh_nu g a (g a - x)) b (g b + x)) := by
  obtain ⟨h1, h2⟩ := h
  obtain ⟨ea1, ea2, ea3, ea4, ea5, ea6, ea7, ea8, qa1, qa2, qa3⟩ := h1 a ha
  refine ⟨fun i hi => ?_, ?_⟩
  · obtain ⟨f1, f2, f3, f4, f5, f6, f7, f8, q1, q2, q3⟩ := h1 i hi
    rw [e2, e3, e4, e5, e57, e58, e59, e60]
    unfold gh_nu
    by_cases eb : i = b
    · subst eb
      simp only [if_true]
      exact ⟨trivial, trivial, trivial, trivial, f5, f6, trivial, trivial, qa1, hc, q3⟩
    · simp only [if_neg eb]
      by_cases ea : i = a
      · subst ea
        simp only [if_true]
        exact ⟨f1, f2, trivial, trivial, f5, f6, trivial, trivial, q1, by omega, q3⟩
      · simp only [if_neg ea]
        exact ⟨f1, f2, f3, f4, f5, f6, f7, f8, q1, q2, q3⟩
  · have s1 := gh_sm_nu g a (g a - x) 8 ha
    have s2 := gh_sm_nu (gh_nu g a (g a - x)) b (g b + x) 8 hb
    rw [gh_nu_n _ _ (fun e => hab e.symm)] at s2
    omega
def gq_CG (c k : Nat) : Bool := Nat.beq c 2 || Nat.beq c 3 || Nat.beq c 5 || gq_C15 c k
def gq_CH (c k : Nat) : Bool := Nat.beq c 58 || Nat.beq c 59 || Nat.beq c 60 || gq_C68 c k
section GqMv
variable {S T : gh_St} {n : Nat} {A B M la : Nat → Nat} {cl u : Nat} (N : Nat) {q a b m c ka kb ga gb best st : Nat} {D wl : Nat → Nat}
theorem gq_go9 (hN : 100 ≤ N) (hst : st ≤ 5) (hbe : best ≤ 1000000) (h6 : S.1 11 6 = nI st) (h17 : ∀ i, i < st → S.1 17 i = nI (wl i) ∧ wl i < 20) (h15 : ∀ k, k < 20 → S.1 15 k = gq_kd (la k)) (h9 : S.2.1 11 9 = lN u) (ha : a < 8) (hb : b < 8) (hab : a ≠ b) (e3 : S.1 3 a = nI ka) (e5 : S.2.1 5 a = lN ga) (f3 : S.1 3 b = nI kb) (f5 : S.2.1 5 b = lN gb) (hm1 : 1 ≤ m) (hm : m ≤ ka) (hka : ka ≤ 500000) (hga : ga ≤ 4000000000) :
    ∃ S2 S3 S4, sX4_goBy N (nI q) (nI best) S = some S2 ∧ sX0_take N (nI a) (nI m) S2 = some (lN (ga * m / ka), S3) ∧ sX0_put N (nI b) (nI q) (nI c) (lN (ga * m / ka)) S3 = some S4 ∧ gh_fr gq_CG S S4 ∧
    (∀ i, S4.1 2 i = if i = b then nI q else S.1 2 i) ∧ (∀ i, S4.1 3 i = if i = b then nI (kb + c) else if i = a then nI (ka - m) else S.1 3 i) ∧ (∀ i, S4.2.1 5 i = if i = b then lN (gb + ga * m / ka) else if i = a then lN (ga - ga * m / ka) else S.2.1 5 i) ∧ (∀ k, k < 20 → S4.1 15 k = gq_kd (gq_sl la wl (q + 1) st k)) ∧ S4.2.1 11 9 = lN (u + best) := by
  obtain ⟨S2, g1, g2, g3, g4⟩ := gq_goBy (q := q) (S := S) N hN hst hbe h6 h17 h15
  have t3 : S2.1 3 a = nI ka := (g2.1 3 a rfl).trans e3
  have t5 : S2.2.1 5 a = lN ga := (g2.2.1 5 a rfl).trans e5
  have ht := gq_take N ha t3 t5 (by omega) hka hm hga
  have p3 : (gh_fL (gh_fI S2 3 a (nI (ka - m))) 5 a (lN (ga - ga * m / ka))).1 3 b = nI kb := by
    rw [gh_fL_2, gh_fI_1, if_neg (by omega), g2.1 3 b rfl, f3]
  have p5 : (gh_fL (gh_fI S2 3 a (nI (ka - m))) 5 a (lN (ga - ga * m / ka))).2.1 5 b = lN gb := by
    rw [gh_fL_1, if_neg (by omega), gh_fI_2, g2.2.1 5 b rfl, f5]
  have hp := gq_put (q := q) (m := c) (x := ga * m / ka) N hb p3 p5
  refine ⟨S2, _, _, g1, ht, hp, ?_, fun i => ?_, fun i => ?_, fun i => ?_, fun k hk => ?_, ?_⟩
  · have : gh_fr gq_CG S S2 := gh_fr_mono g2 (fun c k hc => by unfold gq_CG; rw [hc]; simp)
    exact gh_fr_fL (gh_fr_fI (gh_fr_fI (gh_fr_fL (gh_fr_fI this rfl) rfl) rfl) rfl) rfl
  · rw [gh_fL_2, gh_fI_1, if_neg (by omega), gh_fI_1, gh_fL_2, gh_fI_1, g2.1 2 i rfl]
    simp
  · rw [gh_fL_2, gh_fI_1, gh_fI_1, gh_fL_2, gh_fI_1, g2.1 3 i rfl]
    simp
  · rw [gh_fL_1, gh_fI_2, gh_fI_2, gh_fL_1, gh_fI_2, g2.2.1 5 i rfl]
    simp
  · rw [gh_fL_2, gh_fI_1, if_neg (by omega), gh_fI_1, if_neg (by omega), gh_fL_2, gh_fI_1, if_neg (by omega)]
    exact g3 k hk
  · rw [gh_fL_1, if_neg (by omega), gh_fI_2, gh_fI_2, gh_fL_1, if_neg (by omega), gh_fI_2, g4, h9, lN_add]
theorem gq_go10 (h : gq_WY T n A B M la cl u q a b D st) (hN : 100 ≤ N) (hbe : best ≤ 1000000) (hD : D a = 100 * best + st) (hu : u ≤ 1000000000) (ha : a < 8) (hb : b < 8) (hab : a ≠ b) (e3 : T.1 59 a = nI ka) (e5 : T.2.1 60 a = lN ga) (f3 : T.1 59 b = nI kb) (f5 : T.2.1 60 b = lN gb) (hm1 : 1 ≤ m) (hm : m ≤ ka) (hka : ka ≤ 500000) (hga : ga ≤ 4000000000) :
    ∃ T2 T3 T4, sX10_goesBy N (nI q) (nI a) (nI b) T = some (nI best, T2) ∧ sX10_takes N (nI a) (nI m) T2 = some T3 ∧ T3.1 58 a = T.1 58 a ∧ T2.1 58 a = T.1 58 a ∧ sX10_puts N (nI b) (nI q) (nI c) (lN (ga * m / ka)) T3 = some T4 ∧ gh_fr gq_CH T T4 ∧
    (∀ i, T4.1 58 i = if i = b then nI q else T.1 58 i) ∧ (∀ i, T4.1 59 i = if i = b then nI (kb + c) else if i = a then nI (ka - m) else T.1 59 i) ∧ (∀ i, T4.2.1 60 i = if i = b then lN (gb + ga * m / ka) else if i = a then lN (ga - ga * m / ka) else T.2.1 60 i) ∧ (∀ k, k < 20 → T4.1 68 k = gq_kd (gq_sl la (gq_wl A B (gq_cst M la cl q) n a b D) (q + 1) st k)) ∧ T4.1 56 15 = nI (u + best) := by
  obtain ⟨⟨v, T2⟩, g1, g0, g2, g3, g4⟩ := gq_goesBy N h hN ha hbe hD hu
  have g0 : v = nI best := g0
  subst g0
  have g2 : gh_fr gq_C68 T T2 := g2
  have t3 : T2.1 59 a = nI ka := (g2.1 59 a rfl).trans e3
  have t5 : T2.2.1 60 a = lN ga := (g2.2.1 60 a rfl).trans e5
  have ht := gq_takes N ha t3 t5 (by omega) hka hm hga
  have p3 : (gh_fI (gh_fL T2 60 a (lN (ga - ga * m / ka))) 59 a (nI (ka - m))).1 59 b = nI kb := by
    rw [gh_fI_1, if_neg (by omega), gh_fL_2, g2.1 59 b rfl, f3]
  have p5 : (gh_fI (gh_fL T2 60 a (lN (ga - ga * m / ka))) 59 a (nI (ka - m))).2.1 60 b = lN gb := by
    rw [gh_fI_2, gh_fL_1, if_neg (by omega), g2.2.1 60 b rfl, f5]
  have hp := gq_putR (q := q) (m := c) (x := ga * m / ka) N hb p3 p5
  refine ⟨T2, _, _, g1, ht, ?_, g2.1 58 a rfl, hp, ?_, fun i => ?_, fun i => ?_, fun i => ?_, fun k hk => ?_, ?_⟩
  · rw [gh_fI_1, if_neg (by omega), gh_fL_2]
    exact g2.1 58 a rfl
  · have : gh_fr gq_CH T T2 := gh_fr_mono g2 (fun c k hc => by unfold gq_CH; rw [hc]; simp)
    exact gh_fr_fL (gh_fr_fI (gh_fr_fI (gh_fr_fI (gh_fr_fL this rfl) rfl) rfl) rfl) rfl
  · simp only [gh_fL_2, gh_fI_1]
    rw [g2.1 58 i rfl]
    simp
  · rw [gh_fL_2, gh_fI_1, gh_fI_1, gh_fI_1, gh_fL_2, g2.1 59 i rfl]
    simp
  · rw [gh_fL_1, gh_fI_2, gh_fI_2, gh_fI_2, gh_fL_1, g2.2.1 60 i rfl]
    simp
  · rw [gh_fL_2, gh_fI_1, if_neg (by omega), gh_fI_1, if_neg (by omega), gh_fI_1, if_neg (by omega), gh_fL_2]
    exact g3 k hk
  · rw [gh_fL_2, gh_fI_1, if_neg (by omega), gh_fI_1, if_neg (by omega), gh_fI_1, if_neg (by omega), gh_fL_2]
    exact g4
end GqMv
