/-! ===== FANS: sums ===== -/
def gz_sm (f : Nat → Int) : Nat → Int
  | 0 => 0
  | n + 1 => gz_sm f n + f n
theorem gz_cg {f g : Nat → Int} : ∀ n, (∀ k, k < n → f k = g k) → gz_sm f n = gz_sm g n := by
  intro n
  induction n with
  | zero => intro _; rfl
  | succ n ih => intro h; rw [gz_sm, gz_sm, ih (fun k hk => h k (by omega)), h n (by omega)]
theorem gz_add (f g : Nat → Int) : ∀ n, gz_sm (fun k => f k + g k) n = gz_sm f n + gz_sm g n := by
  intro n
  induction n with
  | zero => rfl
  | succ n ih => rw [gz_sm, gz_sm, gz_sm, ih]; omega
theorem gz_sub (f g : Nat → Int) : ∀ n, gz_sm (fun k => f k - g k) n = gz_sm f n - gz_sm g n := by
  intro n
  induction n with
  | zero => rfl
  | succ n ih => rw [gz_sm, gz_sm, gz_sm, ih]; omega
theorem gz_mulr (f : Nat → Int) (c : Int) : ∀ n, gz_sm (fun k => f k * c) n = gz_sm f n * c := by
  intro n
  induction n with
  | zero => show (0 : Int) = 0 * c; rw [Int.zero_mul]
  | succ n ih => rw [gz_sm, gz_sm, ih, Int.add_mul]
theorem gz_nn {f : Nat → Int} : ∀ n, (∀ k, k < n → 0 ≤ f k) → 0 ≤ gz_sm f n := by
  intro n
  induction n with
  | zero => intro _; exact Int.le_refl _
  | succ n ih => intro h; have := ih (fun k hk => h k (by omega)); have := h n (by omega); rw [gz_sm]; omega
theorem gz_zero {f : Nat → Int} : ∀ n, (∀ k, k < n → 0 ≤ f k) → gz_sm f n = 0 → ∀ k, k < n → f k = 0 := by
  intro n
  induction n with
  | zero => intro _ _ k h; omega
  | succ n ih =>
    intro h h0 k hk
    have h1 := gz_nn n (fun k hk => h k (by omega))
    have h2 := h n (by omega)
    rw [gz_sm] at h0
    by_cases e : k = n
    · subst e; omega
    · exact ih (fun k hk => h k (by omega)) (by omega) k (by omega)
theorem gz_swap (f : Nat → Nat → Int) (m : Nat) : ∀ n, gz_sm (fun b => gz_sm (fun h => f b h) m) n = gz_sm (fun h => gz_sm (fun b => f b h) n) m := by
  intro n
  induction n with
  | zero =>
    show (0 : Int) = gz_sm (fun _ => 0) m
    induction m with
    | zero => rfl
    | succ m ih => rw [gz_sm, ← ih]; rfl
  | succ n ih =>
    rw [gz_sm, ih, ← gz_add]
    rfl
theorem gz_cast (f : Nat → Nat) : ∀ n, ((gh_sm f n : Nat) : Int) = gz_sm (fun k => (f k : Int)) n := by
  intro n
  induction n with
  | zero => rfl
  | succ n ih => rw [gh_sm, gz_sm, ← ih]; omega
theorem gn_cg {f g : Nat → Nat} : ∀ n, (∀ k, k < n → f k = g k) → gh_sm f n = gh_sm g n := by
  intro n
  induction n with
  | zero => intro _; rfl
  | succ n ih => intro h; rw [gh_sm, gh_sm, ih (fun k hk => h k (by omega)), h n (by omega)]
theorem gn_le {f g : Nat → Nat} : ∀ n, (∀ k, k < n → f k ≤ g k) → gh_sm f n ≤ gh_sm g n := by
  intro n
  induction n with
  | zero => intro _; exact Nat.le_refl _
  | succ n ih => intro h; have := ih (fun k hk => h k (by omega)); have := h n (by omega); rw [gh_sm, gh_sm]; omega
theorem gn_lt {f g : Nat → Nat} {j : Nat} : ∀ n, (∀ k, k < n → f k ≤ g k) → j < n → f j < g j → gh_sm f n < gh_sm g n := by
  intro n
  induction n with
  | zero => intro _ h; omega
  | succ n ih =>
    intro h hj hlt
    have := h n (by omega)
    rw [gh_sm, gh_sm]
    by_cases e : j = n
    · subst e
      have := gn_le j (fun k hk => h k (by omega))
      omega
    · have := ih (fun k hk => h k (by omega)) (by omega) hlt
      omega
theorem gn_add (f g : Nat → Nat) : ∀ n, gh_sm (fun k => f k + g k) n = gh_sm f n + gh_sm g n := by
  intro n
  induction n with
  | zero => rfl
  | succ n ih => rw [gh_sm, gh_sm, gh_sm, ih]; omega
theorem gn_swap (f : Nat → Nat → Nat) (m : Nat) : ∀ n, gh_sm (fun b => gh_sm (fun h => f b h) m) n = gh_sm (fun h => gh_sm (fun b => f b h) n) m := by
  intro n
  induction n with
  | zero =>
    show 0 = gh_sm (fun _ => 0) m
    induction m with
    | zero => rfl
    | succ m ih => rw [gh_sm, ← ih]
  | succ n ih =>
    rw [gh_sm, ih, ← gn_add]
    rfl
theorem gn_z {f : Nat → Nat} : ∀ n, (∀ k, k < n → f k = 0) → gh_sm f n = 0 := by
  intro n
  induction n with
  | zero => intro _; rfl
  | succ n ih => intro h; rw [gh_sm, ih (fun k hk => h k (by omega)), h n (by omega)]
theorem gn_one {c v : Nat} : ∀ n, c < n → gh_sm (fun k => if c = k then v else 0) n = v := by
  intro n
  induction n with
  | zero => intro h; omega
  | succ n ih =>
    intro h
    rw [gh_sm]
    by_cases e : c = n
    · subst e
      rw [if_pos rfl, gn_z c (fun k hk => if_neg (by omega)), Nat.zero_add]
    · rw [ih (by omega), if_neg e]
      rfl
/-- by price -/
theorem gn_by (p f : Nat → Nat) (hp : ∀ h, h < 12 → p h < 100) : gh_sm f 12 = gh_sm (fun c => gh_sm (fun h => if p h = c then f h else 0) 12) 100 := by
  rw [gn_swap]
  refine gn_cg 12 (fun h hh => ?_)
  exact (gn_one 100 (hp h hh)).symm
/-! ===== FANS: plans ===== -/
def gf_row (x : Nat → Nat → Bool) (b : Nat) : Nat := gh_sm (fun h => (x b h).toNat) 12
def gf_col (x : Nat → Nat → Bool) (h : Nat) : Nat := gh_sm (fun b => (x b h).toNat) 8
def gf_u (x : Nat → Nat → Bool) (b h : Nat) (v : Bool) : Nat → Nat → Bool := fun b' h' => if b' = b ∧ h' = h then v else x b' h'
def gf_feas (may : Nat → Nat → Bool) (T : Nat → Nat) (pw : Nat) (x : Nat → Nat → Bool) : Prop :=
  (∀ b, b < 8 → gf_row x b = T b) ∧ (∀ h, h < 12 → gf_col x h ≤ pw) ∧ ∀ b h, b < 8 → h < 12 → x b h = true → may b h = true
def gf_cert (may : Nat → Nat → Bool) (pw : Nat) (p : Nat → Nat) (x : Nat → Nat → Bool) (ld Mb Mh : Nat → Nat) : Prop :=
  (∀ b h, b < 8 → h < 12 → x b h = true → Mh h ≤ Mb b) ∧ (∀ b h, b < 8 → h < 12 → may b h = true → x b h = false → Mb b ≤ Mh h) ∧ (∀ h, h < 12 → ld h < pw → Mh h ≤ p h) ∧ (∀ h, h < 12 → 0 < ld h → p h ≤ Mh h)
def gf_cost (p ld : Nat → Nat) : Nat := gh_sm (fun h => ld h * p h) 12
def gf_pl (p ld : Nat → Nat) (c : Nat) : Nat := gh_sm (fun h => if p h = c then ld h else 0) 12
def gf_plq (p ld ld' : Nat → Nat) : Prop := ∀ c, gf_pl p ld c = gf_pl p ld' c
theorem gf_row_u {x : Nat → Nat → Bool} {b h : Nat} (v : Bool) (hh : h < 12) : gf_row (gf_u x b h v) b + (x b h).toNat = gf_row x b + v.toNat := by
  unfold gf_row
  rw [show (fun h' => (gf_u x b h v b h').toNat) = gh_nu (fun h' => (x b h').toNat) h v.toNat from ?_]
  · exact gh_sm_nu (fun h' => (x b h').toNat) h v.toNat 12 hh
  · funext h'
    unfold gf_u gh_nu
    by_cases e : h' = h
    · simp [e]
    · simp [e]
theorem gf_row_n {x : Nat → Nat → Bool} {b h b' : Nat} (v : Bool) (hb : b' ≠ b) : gf_row (gf_u x b h v) b' = gf_row x b' := by
  unfold gf_row
  refine gn_cg 12 (fun h' _ => ?_)
  unfold gf_u
  rw [if_neg (fun q => hb q.1)]
theorem gf_col_u {x : Nat → Nat → Bool} {b h : Nat} (v : Bool) (hb : b < 8) : gf_col (gf_u x b h v) h + (x b h).toNat = gf_col x h + v.toNat := by
  unfold gf_col
  rw [show (fun b' => (gf_u x b h v b' h).toNat) = gh_nu (fun b' => (x b' h).toNat) b v.toNat from ?_]
  · exact gh_sm_nu (fun b' => (x b' h).toNat) b v.toNat 8 hb
  · funext b'
    unfold gf_u gh_nu
    by_cases e : b' = b
    · simp [e]
    · simp [e]
theorem gf_col_n {x : Nat → Nat → Bool} {b h h' : Nat} (v : Bool) (hh : h' ≠ h) : gf_col (gf_u x b h v) h' = gf_col x h' := by
  unfold gf_col
  refine gn_cg 8 (fun b' _ => ?_)
  unfold gf_u
  rw [if_neg (fun q => hh q.2)]
theorem gf_u_s (x : Nat → Nat → Bool) (b h : Nat) (v : Bool) : gf_u x b h v b h = v := if_pos ⟨rfl, rfl⟩
theorem gf_u_n (x : Nat → Nat → Bool) {b h b' h' : Nat} (v : Bool) (hn : ¬ (b' = b ∧ h' = h)) : gf_u x b h v b' h' = x b' h' := if_neg hn
theorem gf_cert_flip {may : Nat → Nat → Bool} {pw : Nat} {p : Nat → Nat} {x : Nat → Nat → Bool} {ld Mb Mh : Nat → Nat} (hc : gf_cert may pw p x ld Mb Mh) {b h : Nat} (v : Bool) (he : Mb b = Mh h) : gf_cert may pw p (gf_u x b h v) ld Mb Mh := by
  obtain ⟨h1, h2, h3, h4⟩ := hc
  refine ⟨fun b' h' hb hh hx => ?_, fun b' h' hb hh hm hx => ?_, h3, h4⟩
  · by_cases e : b' = b ∧ h' = h
    · rw [e.1, e.2, he]; exact Nat.le_refl _
    · rw [gf_u_n x v e] at hx
      exact h1 b' h' hb hh hx
  · by_cases e : b' = b ∧ h' = h
    · rw [e.1, e.2, he]; exact Nat.le_refl _
    · rw [gf_u_n x v e] at hx
      exact h2 b' h' hb hh hm hx
/-! duality -/
theorem gf_sgn {a b : Int} (h : (0 ≤ a ∧ 0 ≤ b) ∨ (a ≤ 0 ∧ b ≤ 0) ∨ a = 0) : 0 ≤ a * b := by
  rcases h with ⟨h1, h2⟩ | ⟨h1, h2⟩ | h
  · exact Int.mul_nonneg h1 h2
  · have := Int.mul_nonneg (show 0 ≤ -a by omega) (show 0 ≤ -b by omega)
    rwa [Int.neg_mul_neg] at this
  · rw [h, Int.zero_mul]; exact Int.le_refl _
theorem gf_algebra (x y : Nat → Nat → Bool) (p Mb Mh : Nat → Nat) (hr : ∀ b, b < 8 → gf_row x b = gf_row y b) : ((gf_cost p (gf_col y) : Nat) : Int) - (gf_cost p (gf_col x) : Nat) = gz_sm (fun h => ((gf_col y h : Int) - gf_col x h) * ((p h : Int) - Mh h)) 12 + gz_sm (fun b => gz_sm (fun h => (((y b h).toNat : Int) - (x b h).toNat) * ((Mh h : Int) - Mb b)) 12) 8 := by
  have e1 : ((gf_cost p (gf_col y) : Nat) : Int) - (gf_cost p (gf_col x) : Nat) = gz_sm (fun h => ((gf_col y h : Int) - gf_col x h) * (p h : Int)) 12 := by
    unfold gf_cost
    rw [gz_cast, gz_cast, ← gz_sub]
    refine gz_cg 12 (fun h _ => ?_)
    rw [Int.natCast_mul, Int.natCast_mul, ← Int.sub_mul]
  have e2 : gz_sm (fun h => ((gf_col y h : Int) - gf_col x h) * (p h : Int)) 12 = gz_sm (fun h => ((gf_col y h : Int) - gf_col x h) * ((p h : Int) - Mh h)) 12 + gz_sm (fun h => ((gf_col y h : Int) - gf_col x h) * (Mh h : Int)) 12 := by
    rw [← gz_add]
    refine gz_cg 12 (fun h _ => ?_)
    show _ = _ * _ + _ * _
    rw [← Int.mul_add]
    congr 1
    omega
  have e3 : gz_sm (fun h => ((gf_col y h : Int) - gf_col x h) * (Mh h : Int)) 12 = gz_sm (fun b => gz_sm (fun h => (((y b h).toNat : Int) - (x b h).toNat) * (Mh h : Int)) 12) 8 := by
    rw [gz_swap]
    refine gz_cg 12 (fun h _ => ?_)
    unfold gf_col
    rw [gz_mulr, gz_cast, gz_cast, gz_sub]
  have e4 : gz_sm (fun b => gz_sm (fun h => (((y b h).toNat : Int) - (x b h).toNat) * (Mh h : Int)) 12) 8 = gz_sm (fun b => gz_sm (fun h => (((y b h).toNat : Int) - (x b h).toNat) * ((Mh h : Int) - Mb b)) 12) 8 := by
    refine gz_cg 8 (fun b hb => ?_)
    have z : gz_sm (fun h => (((y b h).toNat : Int) - (x b h).toNat) * (Mb b : Int)) 12 = 0 := by
      rw [gz_mulr, gz_sub, ← gz_cast, ← gz_cast]
      have := hr b hb
      unfold gf_row at this
      rw [this]
      rw [Int.sub_self, Int.zero_mul]
    have s : gz_sm (fun h => (((y b h).toNat : Int) - (x b h).toNat) * (Mh h : Int)) 12 = gz_sm (fun h => (((y b h).toNat : Int) - (x b h).toNat) * ((Mh h : Int) - Mb b)) 12 + gz_sm (fun h => (((y b h).toNat : Int) - (x b h).toNat) * (Mb b : Int)) 12 := by
      rw [← gz_add]
      refine gz_cg 12 (fun h _ => ?_)
      show _ = _ * _ + _ * _
      rw [← Int.mul_add]
      congr 1
      omega
    rw [s, z, Int.add_zero]
  rw [e1, e2, e3, e4]
section GfDual
variable {may : Nat → Nat → Bool} {T : Nat → Nat} {pw : Nat} {p Mb Mh : Nat → Nat} {x y : Nat → Nat → Bool}
theorem gf_t1 (hc : gf_cert may pw p x (gf_col x) Mb Mh) (hy : gf_feas may T pw y) {h : Nat} (hh : h < 12) : 0 ≤ ((gf_col y h : Int) - gf_col x h) * ((p h : Int) - Mh h) := by
  obtain ⟨c1, c2, c3, c4⟩ := hc
  have hle := hy.2.1 h hh
  refine gf_sgn ?_
  by_cases a : gf_col x h < gf_col y h
  · have := c3 h hh (by omega)
    exact Or.inl ⟨by omega, by omega⟩
  · by_cases b : gf_col y h < gf_col x h
    · have := c4 h hh (by omega)
      exact Or.inr (Or.inl ⟨by omega, by omega⟩)
    · exact Or.inr (Or.inr (by omega))
theorem gf_t2 (hc : gf_cert may pw p x (gf_col x) Mb Mh) (hy : gf_feas may T pw y) {b h : Nat} (hb : b < 8) (hh : h < 12) : 0 ≤ (((y b h).toNat : Int) - (x b h).toNat) * ((Mh h : Int) - Mb b) := by
  obtain ⟨c1, c2, c3, c4⟩ := hc
  refine gf_sgn ?_
  cases ex : x b h with
  | true =>
    have := c1 b h hb hh ex
    cases ey : y b h with
    | true => exact Or.inr (Or.inr rfl)
    | false => exact Or.inr (Or.inl ⟨by decide, by omega⟩)
  | false =>
    cases ey : y b h with
    | true =>
      have := c2 b h hb hh (hy.2.2 b h hb hh ey) ex
      exact Or.inl ⟨by decide, by omega⟩
    | false => exact Or.inr (Or.inr rfl)
theorem gf_dual (hc : gf_cert may pw p x (gf_col x) Mb Mh) (hx : ∀ b, b < 8 → gf_row x b = T b) (hy : gf_feas may T pw y) : gf_cost p (gf_col x) ≤ gf_cost p (gf_col y) := by
  have e := gf_algebra x y p Mb Mh (fun b hb => (hx b hb).trans (hy.1 b hb).symm)
  have n1 := gz_nn (f := fun h => ((gf_col y h : Int) - gf_col x h) * ((p h : Int) - Mh h)) 12 (fun h hh => gf_t1 hc hy hh)
  have n2 := gz_nn (f := fun b => gz_sm (fun h => (((y b h).toNat : Int) - (x b h).toNat) * ((Mh h : Int) - Mb b)) 12) 8 (fun b hb => gz_nn 12 (fun h hh => gf_t2 hc hy hb hh))
  omega
/-- a plan of the same cost has the same certificate -/
theorem gf_dual_eq (hc : gf_cert may pw p x (gf_col x) Mb Mh) (hx : ∀ b, b < 8 → gf_row x b = T b) (hy : gf_feas may T pw y) (he : gf_cost p (gf_col y) = gf_cost p (gf_col x)) : gf_cert may pw p y (gf_col y) Mb Mh := by
  have e := gf_algebra x y p Mb Mh (fun b hb => (hx b hb).trans (hy.1 b hb).symm)
  have n1 := gz_nn (f := fun h => ((gf_col y h : Int) - gf_col x h) * ((p h : Int) - Mh h)) 12 (fun h hh => gf_t1 hc hy hh)
  have n2 := gz_nn (f := fun b => gz_sm (fun h => (((y b h).toNat : Int) - (x b h).toNat) * ((Mh h : Int) - Mb b)) 12) 8 (fun b hb => gz_nn 12 (fun h hh => gf_t2 hc hy hb hh))
  have z1 := gz_zero 12 (fun h hh => gf_t1 hc hy hh) (by omega)
  have z2 := gz_zero 8 (fun b hb => gz_nn 12 (fun h hh => gf_t2 hc hy hb hh)) (by omega)
  obtain ⟨c1, c2, c3, c4⟩ := hc
  have q1 : ∀ h, h < 12 → gf_col y h = gf_col x h ∨ p h = Mh h := by
    intro h hh
    rcases Int.mul_eq_zero.mp (z1 h hh) with q | q
    · exact Or.inl (by omega)
    · exact Or.inr (by omega)
  have q2 : ∀ b h, b < 8 → h < 12 → y b h = x b h ∨ Mh h = Mb b := by
    intro b h hb hh
    rcases Int.mul_eq_zero.mp (gz_zero 12 (fun h hh => gf_t2 ⟨c1, c2, c3, c4⟩ hy hb hh) (z2 b hb) h hh) with q | q
    · refine Or.inl ?_
      revert q
      cases y b h <;> cases x b h <;> decide
    · exact Or.inr (by omega)
  refine ⟨fun b h hb hh hyy => ?_, fun b h hb hh hm hyy => ?_, fun h hh hl => ?_, fun h hh hl => ?_⟩
  · rcases q2 b h hb hh with q | q
    · exact c1 b h hb hh (by rw [← q]; exact hyy)
    · omega
  · rcases q2 b h hb hh with q | q
    · exact c2 b h hb hh hm (by rw [← q]; exact hyy)
    · omega
  · rcases q1 h hh with q | q
    · exact c3 h hh (by omega)
    · omega
  · rcases q1 h hh with q | q
    · exact c4 h hh (by omega)
    · omega
/-- prices and potentials by a step at c -/
theorem gf_cert_step (hc : gf_cert may pw p x (gf_col x) Mb Mh) (c : Nat) : gf_cert may pw (fun h => if c ≤ p h then 1 else 0) x (gf_col x) (fun b => if c ≤ Mb b then 1 else 0) (fun h => if c ≤ Mh h then 1 else 0) := by
  have mono : ∀ a b : Nat, a ≤ b → (if c ≤ a then 1 else 0) ≤ (if c ≤ b then 1 else 0) := by
    intro a b h
    split
    · rw [if_pos (by omega)]; exact Nat.le_refl _
    · exact Nat.zero_le _
  obtain ⟨c1, c2, c3, c4⟩ := hc
  exact ⟨fun b h hb hh hx => mono _ _ (c1 b h hb hh hx), fun b h hb hh hm hx => mono _ _ (c2 b h hb hh hm hx), fun h hh hl => mono _ _ (c3 h hh hl), fun h hh hl => mono _ _ (c4 h hh hl)⟩
end GfDual
/-- the least in every way -/
def gf_opt (may : Nat → Nat → Bool) (T : Nat → Nat) (pw : Nat) (p : Nat → Nat) (x : Nat → Nat → Bool) : Prop :=
  ∀ y, gf_feas may T pw y → gf_cost p (gf_col x) ≤ gf_cost p (gf_col y) ∧ ∀ c, gf_cost (fun h => if c ≤ p h then 1 else 0) (gf_col x) ≤ gf_cost (fun h => if c ≤ p h then 1 else 0) (gf_col y)
theorem gf_opt_of {may : Nat → Nat → Bool} {T : Nat → Nat} {pw : Nat} {p Mb Mh : Nat → Nat} {x : Nat → Nat → Bool} (hc : gf_cert may pw p x (gf_col x) Mb Mh) (hx : ∀ b, b < 8 → gf_row x b = T b) : gf_opt may T pw p x := fun _ hy => ⟨gf_dual hc hx hy, fun c => gf_dual (gf_cert_step hc c) hx hy⟩
theorem gf_pl_step (p ld : Nat → Nat) (c : Nat) : gf_cost (fun h => if c ≤ p h then 1 else 0) ld = gf_pl p ld c + gf_cost (fun h => if c + 1 ≤ p h then 1 else 0) ld := by
  unfold gf_cost gf_pl
  rw [← gn_add]
  refine gn_cg 12 (fun h _ => ?_)
  show ld h * (if c ≤ p h then 1 else 0) = (if p h = c then ld h else 0) + ld h * (if c + 1 ≤ p h then 1 else 0)
  by_cases e1 : p h = c
  · rw [if_pos (by omega), if_pos e1, if_neg (by omega)]; omega
  · by_cases e2 : c ≤ p h
    · rw [if_pos e2, if_neg e1, if_pos (by omega)]; omega
    · rw [if_neg e2, if_neg e1, if_neg (by omega)]; rfl
theorem gf_opt_plq {may : Nat → Nat → Bool} {T : Nat → Nat} {pw : Nat} {p : Nat → Nat} {x y : Nat → Nat → Bool} (hx : gf_feas may T pw x) (hy : gf_feas may T pw y) (ox : gf_opt may T pw p x) (oy : gf_opt may T pw p y) : gf_plq p (gf_col x) (gf_col y) := by
  intro c
  have a1 := (ox y hy).2
  have a2 := (oy x hx).2
  have b1 := gf_pl_step p (gf_col x) c
  have b2 := gf_pl_step p (gf_col y) c
  have c1 := a1 c
  have c2 := a2 c
  have c3 := a1 (c + 1)
  have c4 := a2 (c + 1)
  omega
theorem gf_plq_cost {p ld ld' : Nat → Nat} (hp : ∀ h, h < 12 → p h < 100) (h : gf_plq p ld ld') : gf_cost p ld = gf_cost p ld' := by
  have key : ∀ l : Nat → Nat, gf_cost p l = gh_sm (fun c => gf_pl p l c * c) 100 := by
    intro l
    unfold gf_cost
    rw [gn_by p _ hp]
    refine gn_cg 100 (fun c _ => ?_)
    unfold gf_pl
    have : ∀ n, gh_sm (fun h => if p h = c then l h * p h else 0) n = gh_sm (fun h => if p h = c then l h else 0) n * c := by
      intro n
      induction n with
      | zero => show 0 = 0 * c; rw [Nat.zero_mul]
      | succ n ih =>
        rw [gh_sm, gh_sm, ih, Nat.add_mul]
        by_cases e : p n = c
        · rw [if_pos e, if_pos e, e]
        · rw [if_neg e, if_neg e, Nat.zero_mul]
    exact this 12
  rw [key, key]
  refine gn_cg 100 (fun c _ => ?_)
  rw [h c]
