/-! ===== FANS: no better exchange, none more ===== -/
def gf_rq (Q : Nat → Bool) (x : Nat → Nat → Bool) (b : Nat) : Nat := gh_sm (fun h => if Q h = true then (x b h).toNat else 0) 12
def gf_rn (Q : Nat → Bool) (x : Nat → Nat → Bool) (b : Nat) : Nat := gh_sm (fun h => if Q h = true then 0 else (x b h).toNat) 12
def gf_cq (Q : Nat → Bool) (ld : Nat → Nat) : Nat := gh_sm (fun h => if Q h = true then ld h else 0) 12
theorem gf_rqn (Q : Nat → Bool) (x : Nat → Nat → Bool) (b : Nat) : gf_row x b = gf_rq Q x b + gf_rn Q x b := by
  unfold gf_row gf_rq gf_rn
  rw [← gn_add]
  refine gn_cg 12 (fun h _ => ?_)
  show _ = (if Q h = true then _ else _) + (if Q h = true then _ else _)
  by_cases e : Q h = true
  · rw [if_pos e, if_pos e]; rfl
  · rw [if_neg e, if_neg e]; omega
theorem gf_cq_col (Q : Nat → Bool) (x : Nat → Nat → Bool) : gf_cq Q (gf_col x) = gh_sm (fun b => gf_rq Q x b) 8 := by
  unfold gf_cq gf_rq
  rw [gn_swap]
  refine gn_cg 12 (fun h _ => ?_)
  show (if Q h = true then gf_col x h else 0) = _
  by_cases e : Q h = true
  · rw [if_pos e]
    unfold gf_col
    exact gn_cg 8 (fun b _ => (if_pos e).symm)
  · rw [if_neg e]
    exact (gn_z 8 (fun b _ => if_neg e)).symm
theorem gf_tn_le {a b : Bool} (h : a = true → b = true) : a.toNat ≤ b.toNat := by
  cases a with
  | false => exact Nat.zero_le _
  | true => rw [h rfl]; exact Nat.le_refl _
theorem gf_tn1 (a : Bool) : a.toNat ≤ 1 := by cases a <;> decide
theorem gf_bf {a : Bool} (h : ¬ a = true) : a = false := by cases a with
  | false => rfl
  | true => exact absurd rfl h
/-- y holds op open; z is another plan with the same fixed part that has (bn, ho): then the closed set meets an open hour of bn -/
theorem gf_comp {may op : Nat → Nat → Bool} {T : Nat → Nat} {pw : Nat} {p : Nat → Nat} {y z : Nat → Nat → Bool} {Q : Nat → Bool} {bn ho : Nat} (hp : ∀ h, h < 12 → p h < 100) (hy : gf_feas may T pw y) (hz : gf_feas may T pw z) (hpl : gf_plq p (gf_col y) (gf_col z)) (hag : ∀ b h, b < 8 → h < 12 → op b h = false → y b h = z b h) (hbn : bn < 8) (hho : ho < 12) (hzo : z bn ho = true) (hyo : y bn ho = false) (hQ : Q ho = true) (hno : ∀ h, h < 12 → Q h = true → ¬ (y bn h = true ∧ op bn h = true)) (hcl : ∀ b h h', b < 8 → b ≠ bn → h < 12 → h' < 12 → Q h = true → y b h = true → op b h = true → op b h' = true → y b h' = false → Q h' = true) (hsp : ∀ h h', h < 12 → h' < 12 → Q h = true → gf_col y h < pw → 0 < gf_col y h' → p h' = p h → Q h' = true) : False := by
  have hrows : ∀ b, b < 8 → gf_rq Q y b ≤ gf_rq Q z b := by
    intro b hb
    by_cases hon : b ≠ bn ∧ ∃ h, h < 12 ∧ Q h = true ∧ y b h = true ∧ op b h = true
    · obtain ⟨hne, h0, a1, a2, a3, a4⟩ := hon
      have e1 := gf_rqn Q y b
      have e2 := gf_rqn Q z b
      rw [hy.1 b hb] at e1
      rw [hz.1 b hb] at e2
      have : gf_rn Q z b ≤ gf_rn Q y b := by
        refine gn_le 12 (fun h hh => ?_)
        show (if Q h = true then 0 else _) ≤ (if Q h = true then 0 else _)
        by_cases e : Q h = true
        · rw [if_pos e, if_pos e]; exact Nat.le_refl _
        · rw [if_neg e, if_neg e]
          refine gf_tn_le (fun hzz => ?_)
          cases eo : op b h with
          | false => rw [hag b h hb hh eo]; exact hzz
          | true =>
            cases ey : y b h with
            | true => rfl
            | false => exact absurd (hcl b h0 h hb hne a1 hh a2 a3 a4 eo ey) e
      omega
    · refine gn_le 12 (fun h hh => ?_)
      show (if Q h = true then _ else 0) ≤ (if Q h = true then _ else 0)
      by_cases e : Q h = true
      · rw [if_pos e, if_pos e]
        refine gf_tn_le (fun hyy => ?_)
        cases eo : op b h with
        | false => rw [← hag b h hb hh eo]; exact hyy
        | true =>
          by_cases hne : b = bn
          · subst hne
            exact absurd ⟨hyy, eo⟩ (hno h hh e)
          · exact absurd ⟨hne, h, hh, e, hyy, eo⟩ hon
      · rw [if_neg e, if_neg e]; exact Nat.le_refl _
  have hstrict : gf_rq Q y bn < gf_rq Q z bn := by
    refine gn_lt (j := ho) 12 (fun h hh => ?_) hho ?_
    · show (if Q h = true then _ else 0) ≤ (if Q h = true then _ else 0)
      by_cases e : Q h = true
      · rw [if_pos e, if_pos e]
        refine gf_tn_le (fun hyy => ?_)
        cases eo : op bn h with
        | false => rw [← hag bn h hbn hh eo]; exact hyy
        | true => exact absurd ⟨hyy, eo⟩ (hno h hh e)
      · rw [if_neg e, if_neg e]; exact Nat.le_refl _
    · show (if Q ho = true then _ else 0) < (if Q ho = true then _ else 0)
      rw [if_pos hQ, if_pos hQ, hzo, hyo]
      decide
  have hsum : gf_cq Q (gf_col y) < gf_cq Q (gf_col z) := by
    rw [gf_cq_col, gf_cq_col]
    exact gn_lt (j := bn) 8 hrows hbn hstrict
  have hle : gf_cq Q (gf_col z) ≤ gf_cq Q (gf_col y) := by
    unfold gf_cq
    rw [gn_by p _ hp, gn_by p (fun h => if Q h = true then gf_col y h else 0) hp]
    refine gn_le 100 (fun c _ => ?_)
    by_cases hun : ∃ h0, h0 < 12 ∧ Q h0 = true ∧ p h0 = c ∧ gf_col y h0 < pw
    · obtain ⟨h0, a1, a2, a3, a4⟩ := hun
      have e1 : gh_sm (fun h => if p h = c then (if Q h = true then gf_col z h else 0) else 0) 12 ≤ gf_pl p (gf_col z) c := by
        refine gn_le 12 (fun h hh => ?_)
        show (if p h = c then (if Q h = true then gf_col z h else 0) else 0) ≤ (if p h = c then gf_col z h else 0)
        by_cases e : p h = c
        · rw [if_pos e, if_pos e]
          split
          · exact Nat.le_refl _
          · exact Nat.zero_le _
        · rw [if_neg e, if_neg e]; exact Nat.le_refl _
      have e2 : gf_pl p (gf_col y) c ≤ gh_sm (fun h => if p h = c then (if Q h = true then gf_col y h else 0) else 0) 12 := by
        refine gn_le 12 (fun h hh => ?_)
        show (if p h = c then gf_col y h else 0) ≤ (if p h = c then (if Q h = true then gf_col y h else 0) else 0)
        by_cases e : p h = c
        · rw [if_pos e, if_pos e]
          by_cases ez : 0 < gf_col y h
          · rw [if_pos (hsp h0 h a1 hh a2 a4 ez (by omega))]; exact Nat.le_refl _
          · omega
        · rw [if_neg e, if_neg e]; exact Nat.le_refl _
      have := hpl c
      omega
    · refine gn_le 12 (fun h hh => ?_)
      show (if p h = c then (if Q h = true then gf_col z h else 0) else 0) ≤ (if p h = c then (if Q h = true then gf_col y h else 0) else 0)
      by_cases e : p h = c
      · rw [if_pos e, if_pos e]
        by_cases eq : Q h = true
        · rw [if_pos eq, if_pos eq]
          have h1 : ¬ gf_col y h < pw := fun hl => hun ⟨h, hh, eq, e, hl⟩
          have h2 := hz.2.1 h hh
          omega
        · rw [if_neg eq, if_neg eq]; exact Nat.le_refl _
      · rw [if_neg e, if_neg e]; exact Nat.le_refl _
  omega
/-- no hour more for bn: then no plan -/
theorem gf_hall {may : Nat → Nat → Bool} {T N : Nat → Nat} {pw : Nat} {x y : Nat → Nat → Bool} {Q : Nat → Bool} {bn : Nat} (hx : gf_feas may T pw x) (hT : ∀ b, b < 8 → T b ≤ N b) (hbn : bn < 8) (hlt : T bn < N bn) (hb0 : ∀ h, h < 12 → may bn h = true → x bn h = false → Q h = true) (hcl : ∀ b h h', b < 8 → h < 12 → h' < 12 → Q h = true → x b h = true → may b h' = true → x b h' = false → Q h' = true) (hfull : ∀ h, h < 12 → Q h = true → ¬ gf_col x h < pw) (hy : gf_feas may N pw y) : False := by
  have hin : ∀ b, b < 8 → (b = bn ∨ ∃ h, h < 12 ∧ Q h = true ∧ x b h = true) → gf_rq Q x b + (N b - T b) ≤ gf_rq Q y b := by
    intro b hb hB
    have e1 := gf_rqn Q x b
    have e2 := gf_rqn Q y b
    rw [hx.1 b hb] at e1
    rw [hy.1 b hb] at e2
    have : gf_rn Q y b ≤ gf_rn Q x b := by
      refine gn_le 12 (fun h hh => ?_)
      show (if Q h = true then 0 else _) ≤ (if Q h = true then 0 else _)
      by_cases e : Q h = true
      · rw [if_pos e, if_pos e]; exact Nat.le_refl _
      · rw [if_neg e, if_neg e]
        refine gf_tn_le (fun hyy => ?_)
        have hm := hy.2.2 b h hb hh hyy
        cases ex : x b h with
        | true => rfl
        | false =>
          rcases hB with rfl | ⟨h0, a1, a2, a3⟩
          · exact absurd (hb0 h hh hm ex) e
          · exact absurd (hcl b h0 h hb a1 hh a2 a3 hm ex) e
    have := hT b hb
    omega
  have hrows : ∀ b, b < 8 → gf_rq Q x b ≤ gf_rq Q y b := by
    intro b hb
    by_cases hB : b = bn ∨ ∃ h, h < 12 ∧ Q h = true ∧ x b h = true
    · have := hin b hb hB
      omega
    · have : gf_rq Q x b = 0 := by
        refine gn_z 12 (fun h hh => ?_)
        show (if Q h = true then _ else 0) = 0
        by_cases e : Q h = true
        · rw [if_pos e]
          cases ex : x b h with
          | false => rfl
          | true => exact absurd (Or.inr ⟨h, hh, e, ex⟩) hB
        · rw [if_neg e]
      omega
  have hsum : gf_cq Q (gf_col x) < gf_cq Q (gf_col y) := by
    rw [gf_cq_col, gf_cq_col]
    refine gn_lt (j := bn) 8 hrows hbn ?_
    have := hin bn hbn (Or.inl rfl)
    show gf_rq Q x bn < gf_rq Q y bn
    omega
  have hle : gf_cq Q (gf_col y) ≤ gf_cq Q (gf_col x) := by
    refine gn_le 12 (fun h hh => ?_)
    show (if Q h = true then _ else 0) ≤ (if Q h = true then _ else 0)
    by_cases e : Q h = true
    · rw [if_pos e, if_pos e]
      have h1 := hfull h hh e
      have h2 := hy.2.1 h hh
      omega
    · rw [if_neg e, if_neg e]; exact Nat.le_refl _
  omega
/-! one hour more: the certificate behind it -/
def gf_inB (x : Nat → Nat → Bool) (Q : Nat → Bool) (bn b : Nat) : Prop := b = bn ∨ ∃ h, h < 12 ∧ Q h = true ∧ x b h = true
noncomputable def gf_Mb' (x : Nat → Nat → Bool) (Q : Nat → Bool) (bn : Nat) (Mb : Nat → Nat) (c b : Nat) : Nat := by
  classical
  exact if gf_inB x Q bn b then max (Mb b) c else Mb b
def gf_Mh' (Q : Nat → Bool) (Mh : Nat → Nat) (c h : Nat) : Nat := if Q h = true then max (Mh h) c else Mh h
theorem gf_Mb_in {x : Nat → Nat → Bool} {Q : Nat → Bool} {bn b c : Nat} {Mb : Nat → Nat} (h : gf_inB x Q bn b) : gf_Mb' x Q bn Mb c b = max (Mb b) c := by
  unfold gf_Mb'
  exact if_pos h
theorem gf_Mb_out {x : Nat → Nat → Bool} {Q : Nat → Bool} {bn b c : Nat} {Mb : Nat → Nat} (h : ¬ gf_inB x Q bn b) : gf_Mb' x Q bn Mb c b = Mb b := by
  unfold gf_Mb'
  exact if_neg h
theorem gf_aug {may : Nat → Nat → Bool} {pw : Nat} {p : Nat → Nat} {x : Nat → Nat → Bool} {ld Mb Mh : Nat → Nat} {Q : Nat → Bool} {bn t : Nat} (hc : gf_cert may pw p x ld Mb Mh) (hb0 : ∀ h, h < 12 → may bn h = true → x bn h = false → Q h = true) (hcl : ∀ b h h', b < 8 → h < 12 → h' < 12 → Q h = true → x b h = true → may b h' = true → x b h' = false → Q h' = true) (ht : t < 12) (htQ : Q t = true) (htl : ld t < pw) (hmin : ∀ h, h < 12 → Q h = true → ld h < pw → p t ≤ p h) : gf_cert may pw p x (gh_nu ld t (ld t + 1)) (gf_Mb' x Q bn Mb (p t)) (gf_Mh' Q Mh (p t)) ∧ gf_Mh' Q Mh (p t) t = p t ∧ (∀ b h, b < 8 → h < 12 → gf_inB x Q bn b → Q h = true → may b h = true → x b h = false → gf_Mh' Q Mh (p t) h = p t → gf_Mb' x Q bn Mb (p t) b = p t) ∧ (∀ b h, b < 8 → h < 12 → Q h = true → x b h = true → gf_Mb' x Q bn Mb (p t) b = p t → gf_Mh' Q Mh (p t) h = p t) := by
  obtain ⟨c1, c2, c3, c4⟩ := hc
  have k1 : ∀ b h, b < 8 → h < 12 → x b h = true → gf_Mh' Q Mh (p t) h ≤ gf_Mb' x Q bn Mb (p t) b := by
    intro b h hb hh hx
    have := c1 b h hb hh hx
    unfold gf_Mh'
    by_cases e : Q h = true
    · rw [if_pos e, gf_Mb_in (Or.inr ⟨h, hh, e, hx⟩)]
      omega
    · rw [if_neg e]
      by_cases eb : gf_inB x Q bn b
      · rw [gf_Mb_in eb]; omega
      · rw [gf_Mb_out eb]; exact this
  have k2 : ∀ b h, b < 8 → h < 12 → may b h = true → x b h = false → gf_Mb' x Q bn Mb (p t) b ≤ gf_Mh' Q Mh (p t) h := by
    intro b h hb hh hm hx
    have := c2 b h hb hh hm hx
    unfold gf_Mh'
    by_cases eb : gf_inB x Q bn b
    · have e : Q h = true := by
        rcases eb with rfl | ⟨h0, a1, a2, a3⟩
        · exact hb0 h hh hm hx
        · exact hcl b h0 h hb a1 hh a2 a3 hm hx
      rw [gf_Mb_in eb, if_pos e]
      omega
    · rw [gf_Mb_out eb]
      split <;> omega
  have kt : gf_Mh' Q Mh (p t) t = p t := by
    unfold gf_Mh'
    rw [if_pos htQ]
    have := c3 t ht htl
    omega
  refine ⟨⟨k1, k2, fun h hh hl => ?_, fun h hh hl => ?_⟩, kt, fun b h hb hh hB hq hm hx he => ?_, fun b h hb hh hq hx he => ?_⟩
  · by_cases e : h = t
    · subst e
      rw [kt]; exact Nat.le_refl _
    · rw [gh_nu_n _ _ e] at hl
      have a1 := c3 h hh hl
      unfold gf_Mh'
      by_cases eq : Q h = true
      · rw [if_pos eq]
        have := hmin h hh eq hl
        omega
      · rw [if_neg eq]; exact a1
  · by_cases e : h = t
    · subst e
      rw [kt]; exact Nat.le_refl _
    · rw [gh_nu_n _ _ e] at hl
      have a1 := c4 h hh hl
      unfold gf_Mh'
      split <;> omega
  · have a1 := k2 b h hb hh hm hx
    rw [he] at a1
    have a2 := gf_Mb_in (Mb := Mb) (c := p t) hB
    omega
  · have a1 := k1 b h hb hh hx
    rw [he] at a1
    have a2 : p t ≤ gf_Mh' Q Mh (p t) h := by
      unfold gf_Mh'
      rw [if_pos hq]
      omega
    omega
/-! of the least the first -/
def gf_lex (may : Nat → Nat → Bool) (T : Nat → Nat) (pw : Nat) (p : Nat → Nat) (x : Nat → Nat → Bool) : Prop :=
  ∀ b h, b < 8 → h < 12 → x b h = false → ∀ z, gf_feas may T pw z → gf_plq p (gf_col x) (gf_col z) → (∀ b' h', b' < 8 → h' < 12 → 12 * b' + h' < 12 * b + h → x b' h' = z b' h') → z b h = false
theorem gf_lex_eq {may : Nat → Nat → Bool} {T : Nat → Nat} {pw : Nat} {p : Nat → Nat} {x y : Nat → Nat → Bool} (hx : gf_feas may T pw x) (hy : gf_feas may T pw y) (hq : gf_plq p (gf_col x) (gf_col y)) (lx : gf_lex may T pw p x) (ly : gf_lex may T pw p y) : ∀ b h, b < 8 → h < 12 → x b h = y b h := by
  have key : ∀ k b h, b < 8 → h < 12 → 12 * b + h < k → x b h = y b h := by
    intro k
    induction k with
    | zero => intro b h _ _ hk; omega
    | succ k ih =>
      intro b h hb hh hk
      by_cases e : 12 * b + h < k
      · exact ih b h hb hh e
      · have hag : ∀ b' h', b' < 8 → h' < 12 → 12 * b' + h' < 12 * b + h → x b' h' = y b' h' := fun b' h' hb' hh' hl => ih b' h' hb' hh' (by omega)
        cases ex : x b h with
        | false => exact (lx b h hb hh ex y hy hq hag).symm
        | true =>
          cases ey : y b h with
          | true => rfl
          | false =>
            have := ly b h hb hh ey x hx (fun c => (hq c).symm) (fun b' h' hb' hh' hl => (hag b' h' hb' hh' hl).symm)
            rw [ex] at this
            cases this
  intro b h hb hh
  exact key (12 * b + h + 1) b h hb hh (by omega)
/-- rows of distinct numbers below n are no longer than n -/
theorem gf_pig : ∀ (n : Nat) (l : List Nat), l.Nodup → (∀ x, x ∈ l → x < n) → l.length ≤ n := by
  intro n
  induction n with
  | zero =>
    intro l _ h
    match l with
    | [] => exact Nat.le_refl _
    | x :: _ => exact absurd (h x List.mem_cons_self) (Nat.not_lt_zero _)
  | succ n ih =>
    intro l hd h
    by_cases e : n ∈ l
    · have h1 := ih (l.erase n) (hd.erase n) (fun x hx => by
        have h2 := h x (List.mem_of_mem_erase hx)
        have h3 : x ≠ n := fun q => by
          rw [q] at hx
          exact (List.Nodup.not_mem_erase hd) hx
        omega)
      rw [List.length_erase_of_mem e] at h1
      omega
    · have := ih l hd (fun x hx => by
        have h2 := h x hx
        have h3 : x ≠ n := fun q => e (q ▸ hx)
        omega)
      omega
