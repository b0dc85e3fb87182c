/-! ===== TRUCKS: rows of trucks, purely ===== -/
section GrPure
variable (mi ki we : Nat → Nat) (u c : Nat)
/-- when the pit is free, and what was waited, behind the first trucks of a row -/
def gr_go (tr : Nat → Nat) : Nat → Nat × Nat
  | 0 => (0, 0)
  | i + 1 => (max (gr_go tr i).1 (mi (tr i)) + (u + if 0 < i ∧ ki (tr (i - 1)) ≠ ki (tr i) then c else 0), (gr_go tr i).2 + (max (gr_go tr i).1 (mi (tr i)) - mi (tr i)) * we (tr i))
def gr_at (l : List Nat) : Nat → Nat := fun k => l.getD k 0
def gr_w (l : List Nat) : Nat := (gr_go mi ki we u c (gr_at l) l.length).2
def gr_pick (acc : Option (Nat × List Nat)) (l : List Nat) : Option (Nat × List Nat) :=
  match acc with
  | none => some (gr_w mi ki we u c l, l)
  | some (a, o) => if gr_w mi ki we u c l < a then some (gr_w mi ki we u c l, l) else some (a, o)
end GrPure
/-- all rows of m of these trucks, in order -/
def gr_ext : Nat → List Nat → List (List Nat)
  | 0, _ => [[]]
  | m + 1, r => r.flatMap fun t => (gr_ext m (r.erase t)).map fun l => t :: l
def gr_best (n : Nat) (mi ki we : Nat → Nat) (u c : Nat) : Option (Nat × List Nat) := (gr_ext n (List.range n)).foldl (gr_pick mi ki we u c) none
section GrPure2
variable {mi ki we : Nat → Nat} {u c : Nat}
theorem gr_go_cg {tr tr' : Nat → Nat} : ∀ i, (∀ j, j < i → tr j = tr' j) → gr_go mi ki we u c tr i = gr_go mi ki we u c tr' i := by
  intro i
  induction i with
  | zero => intro _; rfl
  | succ i ih =>
    intro h
    have h1 := h i (by omega)
    have h2 : 0 < i → tr (i - 1) = tr' (i - 1) := fun h0 => h (i - 1) (by omega)
    rw [gr_go, gr_go, ih (fun j hj => h j (by omega)), h1]
    by_cases h0 : 0 < i
    · rw [h2 h0]
    · simp [h0]
theorem gr_go_le {tr : Nat → Nat} (hm : ∀ k, k < 7 → mi k ≤ 999) (hw : ∀ k, k < 7 → we k ≤ 9) (hu : u ≤ 60) (hc : c ≤ 60) : ∀ i, (∀ j, j < i → tr j < 7) → (gr_go mi ki we u c tr i).1 ≤ 999 + 120 * i ∧ (gr_go mi ki we u c tr i).2 ≤ (8991 + 1080 * i) * i := by
  intro i
  induction i with
  | zero => intro _; exact ⟨by show 0 ≤ _; omega, by show 0 ≤ _; omega⟩
  | succ i ih =>
    intro h
    obtain ⟨i1, i2⟩ := ih (fun j hj => h j (by omega))
    have h1 := hm _ (h i (by omega))
    have h2 := hw _ (h i (by omega))
    rw [gr_go]
    generalize (gr_go mi ki we u c tr i).1 = f at i1 ⊢
    generalize (gr_go mi ki we u c tr i).2 = w at i2 ⊢
    have e : (if 0 < i ∧ ki (tr (i - 1)) ≠ ki (tr i) then c else 0) ≤ 60 := by
      split <;> omega
    refine ⟨?_, ?_⟩
    · show max f (mi (tr i)) + (u + _) ≤ _
      omega
    · show w + (max f (mi (tr i)) - mi (tr i)) * we (tr i) ≤ _
      have b : (max f (mi (tr i)) - mi (tr i)) * we (tr i) ≤ (999 + 120 * i) * 9 := Nat.mul_le_mul (by omega) h2
      have b2 : (8991 + 1080 * i) * i + (999 + 120 * i) * 9 ≤ (8991 + 1080 * (i + 1)) * (i + 1) := by
        rw [Nat.mul_add (8991 + 1080 * (i + 1)) i 1]
        have : (8991 + 1080 * i) * i ≤ (8991 + 1080 * (i + 1)) * i := Nat.mul_le_mul_right i (by omega)
        omega
      omega
theorem gr_go_b {tr : Nat → Nat} (hm : ∀ k, k < 7 → mi k ≤ 999) (hw : ∀ k, k < 7 → we k ≤ 9) (hu : u ≤ 60) (hc : c ≤ 60) {i : Nat} (hi : i ≤ 7) (h : ∀ j, j < i → tr j < 7) : (gr_go mi ki we u c tr i).1 ≤ 1839 ∧ (gr_go mi ki we u c tr i).2 ≤ 120000 := by
  obtain ⟨h1, h2⟩ := gr_go_le (ki := ki) hm hw hu hc i h
  have h3 : (8991 + 1080 * i) * i ≤ (8991 + 1080 * 7) * 7 := Nat.mul_le_mul (by omega) hi
  omega
/-! rows -/
theorem gr_ext_perm : ∀ (m : Nat) (r l : List Nat), r.length = m → l ∈ gr_ext m r → l.Perm r := by
  intro m
  induction m with
  | zero =>
    intro r l hr hl
    rw [gr_ext, List.mem_singleton] at hl
    rw [hl, List.eq_nil_of_length_eq_zero hr]
  | succ m ih =>
    intro r l hr hl
    rw [gr_ext, List.mem_flatMap] at hl
    obtain ⟨t, ht, hl⟩ := hl
    obtain ⟨l', hl', rfl⟩ := List.mem_map.mp hl
    have := ih (r.erase t) l' (by rw [List.length_erase_of_mem ht]; omega) hl'
    exact (List.Perm.cons t this).trans (List.perm_cons_erase ht).symm
theorem gr_ext_ne : ∀ (m : Nat) (r : List Nat), r.length = m → gr_ext m r ≠ [] := by
  intro m
  induction m with
  | zero => intro r _ h; cases h
  | succ m ih =>
    intro r hr h
    match r, hr with
    | t :: r', hr =>
      rw [gr_ext, List.flatMap_cons, List.append_eq_nil_iff, List.map_eq_nil_iff] at h
      exact ih ((t :: r').erase t) (by rw [List.length_erase_of_mem List.mem_cons_self]; exact Nat.succ.inj hr) h.1
theorem gr_pick_no {a : Nat} {o : List Nat} : ∀ (L : List (List Nat)), (∀ l, l ∈ L → a ≤ gr_w mi ki we u c l) → L.foldl (gr_pick mi ki we u c) (some (a, o)) = some (a, o) := by
  intro L
  induction L with
  | nil => intro _; rfl
  | cons l L ih =>
    intro h
    have h1 := h l List.mem_cons_self
    rw [List.foldl_cons]
    have e : gr_pick mi ki we u c (some (a, o)) l = some (a, o) := by
      show (if _ then _ else _) = _
      rw [if_neg (by omega)]
    rw [e]
    exact ih (fun l hl => h l (List.mem_cons_of_mem _ hl))
theorem gr_best_some {n : Nat} : ∃ a o, gr_best n mi ki we u c = some (a, o) ∧ o ∈ gr_ext n (List.range n) ∧ a = gr_w mi ki we u c o := by
  have key : ∀ (L : List (List Nat)) (a : Nat) (o : List Nat), a = gr_w mi ki we u c o → ∃ a' o', L.foldl (gr_pick mi ki we u c) (some (a, o)) = some (a', o') ∧ (o' = o ∨ o' ∈ L) ∧ a' = gr_w mi ki we u c o' := by
    intro L
    induction L with
    | nil => intro a o h; exact ⟨a, o, rfl, Or.inl rfl, h⟩
    | cons l L ih =>
      intro a o h
      rw [List.foldl_cons]
      show ∃ a' o', L.foldl _ (if gr_w mi ki we u c l < a then some (gr_w mi ki we u c l, l) else some (a, o)) = _ ∧ _
      by_cases hc : gr_w mi ki we u c l < a
      · rw [if_pos hc]
        obtain ⟨a', o', h1, h2, h3⟩ := ih _ l rfl
        refine ⟨a', o', h1, Or.inr ?_, h3⟩
        rcases h2 with rfl | h2
        · exact List.mem_cons_self
        · exact List.mem_cons_of_mem _ h2
      · rw [if_neg hc]
        obtain ⟨a', o', h1, h2, h3⟩ := ih a o h
        refine ⟨a', o', h1, ?_, h3⟩
        rcases h2 with rfl | h2
        · exact Or.inl rfl
        · exact Or.inr (List.mem_cons_of_mem _ h2)
  unfold gr_best
  have hne := gr_ext_ne n (List.range n) List.length_range
  match hL : gr_ext n (List.range n), hne with
  | l :: L, _ =>
    rw [List.foldl_cons]
    obtain ⟨a', o', h1, h2, h3⟩ := key L _ l rfl
    refine ⟨a', o', h1, ?_, h3⟩
    rcases h2 with rfl | h2
    · exact List.mem_cons_self
    · exact List.mem_cons_of_mem _ h2
/-! what the trucks not yet taken can't stay below -/
end GrPure2
section GrBound
variable (mi we : Nat → Nat) (u : Nat)
def gr_in (f : Int) : List Nat → Int
  | [] => 0
  | t :: s => (f - mi t) * we t + gr_in (f + u) s
def gr_once (f : Nat) : List Nat → Nat
  | [] => 0
  | t :: s => (f - mi t) * we t + gr_once f s
end GrBound
section GrBound2
variable {mi ki we : Nat → Nat} {u c : Nat}
theorem gr_once_perm {f : Nat} {s s' : List Nat} (h : s.Perm s') : gr_once mi we f s = gr_once mi we f s' := by
  induction h with
  | nil => rfl
  | cons x _ ih => rw [gr_once, gr_once, ih]
  | swap x y l => simp only [gr_once]; omega
  | trans _ _ ih1 ih2 => exact ih1.trans ih2
theorem gr_in_sw {f : Int} {a b : Nat} {s : List Nat} (h : we a ≤ we b) : gr_in mi we u f (b :: a :: s) ≤ gr_in mi we u f (a :: b :: s) := by
  have h1 : (u : Int) * we a ≤ u * we b := Int.mul_le_mul_of_nonneg_left (by omega) (by omega)
  have e1 : (f + u - mi a) * we a = (f - mi a) * we a + u * we a := by rw [← Int.add_mul]; congr 1; omega
  have e2 : (f + u - mi b) * we b = (f - mi b) * we b + u * we b := by rw [← Int.add_mul]; congr 1; omega
  simp only [gr_in, e1, e2]
  omega
theorem gr_in_front {b : Nat} {s2 : List Nat} : ∀ (s1 : List Nat) (f : Int), (∀ x, x ∈ s1 → we x ≤ we b) → gr_in mi we u f (b :: (s1 ++ s2)) ≤ gr_in mi we u f (s1 ++ b :: s2) := by
  intro s1
  induction s1 with
  | nil => intro f _; exact Int.le_refl _
  | cons a s1 ih =>
    intro f h
    refine Int.le_trans (gr_in_sw (h a List.mem_cons_self)) ?_
    show (f - mi a) * we a + gr_in mi we u (f + u) (b :: (s1 ++ s2)) ≤ (f - mi a) * we a + gr_in mi we u (f + u) (s1 ++ b :: s2)
    have := ih (f + u) (fun x hx => h x (List.mem_cons_of_mem _ hx))
    omega
theorem gr_in_least : ∀ (s l : List Nat) (f : Int), s.Pairwise (fun a b => we b ≤ we a) → l.Perm s → gr_in mi we u f s ≤ gr_in mi we u f l := by
  intro s
  induction s with
  | nil => intro l f _ h; rw [h.eq_nil]; exact Int.le_refl _
  | cons b s ih =>
    intro l f hs hl
    obtain ⟨h1, h2⟩ := List.pairwise_cons.mp hs
    obtain ⟨s1, s2, rfl⟩ := List.append_of_mem (hl.mem_iff.mpr List.mem_cons_self)
    have hp : (s1 ++ s2).Perm s := (List.perm_middle.symm.trans hl).cons_inv
    refine Int.le_trans ?_ (gr_in_front s1 f (fun x hx => ?_))
    · show (f - mi b) * we b + gr_in mi we u (f + u) s ≤ (f - mi b) * we b + gr_in mi we u (f + u) (s1 ++ s2)
      have := ih (s1 ++ s2) (f + u) h2 hp
      omega
    · exact h1 x (hp.mem_iff.mp (List.mem_append_left _ hx))
theorem gr_lb_in {tr : Nat → Nat} : ∀ (s : List Nat) (d : Nat) (f : Int), (∀ i, i < s.length → tr (d + i) = gr_at s i) → f ≤ ((gr_go mi ki we u c tr d).1 : Int) → ((gr_go mi ki we u c tr d).2 : Int) + gr_in mi we u f s ≤ ((gr_go mi ki we u c tr (d + s.length)).2 : Int) := by
  intro s
  induction s with
  | nil => intro d f _ _; show _ + 0 ≤ ((gr_go mi ki we u c tr (d + 0)).2 : Int); simp
  | cons t s ih =>
    intro d f h hf
    have h0 : tr d = t := h 0 (by simp)
    have := ih (d + 1) (f + u) (fun i hi => by
      have := h (i + 1) (by simp; omega)
      rw [show d + 1 + i = d + (i + 1) by omega, this]
      rfl) (by
      rw [gr_go]
      show f + u ≤ ((max (gr_go mi ki we u c tr d).1 (mi (tr d)) + (u + _) : Nat) : Int)
      omega)
    rw [show d + (t :: s).length = d + 1 + s.length by simp; omega]
    refine Int.le_trans ?_ this
    show _ + ((f - mi t) * we t + gr_in mi we u (f + u) s) ≤ _
    rw [gr_go]
    show _ ≤ (((gr_go mi ki we u c tr d).2 + (max (gr_go mi ki we u c tr d).1 (mi (tr d)) - mi (tr d)) * we (tr d) : Nat) : Int) + _
    rw [h0]
    have hb : (f - mi t) * we t ≤ (((max (gr_go mi ki we u c tr d).1 (mi t) - mi t) * we t : Nat) : Int) := by
      rw [Int.natCast_mul]
      exact Int.mul_le_mul_of_nonneg_right (by omega) (by omega)
    omega
theorem gr_lb_once {tr : Nat → Nat} : ∀ (s : List Nat) (d f : Nat), (∀ i, i < s.length → tr (d + i) = gr_at s i) → f ≤ (gr_go mi ki we u c tr d).1 → (gr_go mi ki we u c tr d).2 + gr_once mi we f s ≤ (gr_go mi ki we u c tr (d + s.length)).2 := by
  intro s
  induction s with
  | nil => intro d f _ _; show _ + 0 ≤ (gr_go mi ki we u c tr (d + 0)).2; simp
  | cons t s ih =>
    intro d f h hf
    have h0 : tr d = t := h 0 (by simp)
    have := ih (d + 1) f (fun i hi => by
      have := h (i + 1) (by simp; omega)
      rw [show d + 1 + i = d + (i + 1) by omega, this]
      rfl) (by
      rw [gr_go]
      show f ≤ max (gr_go mi ki we u c tr d).1 (mi (tr d)) + (u + _)
      omega)
    rw [show d + (t :: s).length = d + 1 + s.length by simp; omega]
    refine Nat.le_trans ?_ this
    show _ + ((f - mi t) * we t + gr_once mi we f s) ≤ _
    rw [gr_go]
    show _ ≤ ((gr_go mi ki we u c tr d).2 + (max (gr_go mi ki we u c tr d).1 (mi (tr d)) - mi (tr d)) * we (tr d)) + _
    rw [h0]
    have hb : (f - mi t) * we t ≤ (max (gr_go mi ki we u c tr d).1 (mi t) - mi t) * we t := Nat.mul_le_mul_right _ (by omega)
    omega
end GrBound2
