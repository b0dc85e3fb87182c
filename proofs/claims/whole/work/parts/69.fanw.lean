/-! ===== FANS: the reference's walks ===== -/
theorem gz_nu (f : Nat → Int) (k : Nat) (x : Int) : ∀ n, k < n → gz_sm (gh_nu f k x) n + f k = gz_sm f n + x := by
  have out : ∀ n, n ≤ k → gz_sm (gh_nu f k x) n = gz_sm f n := fun n hn => gz_cg n (fun j hj => gh_nu_n f x (by omega))
  intro n
  induction n with
  | zero => intro h; omega
  | succ n ih =>
    intro h
    rw [gz_sm, gz_sm]
    by_cases e : k = n
    · subst e
      rw [out k (Nat.le_refl _), gh_nu_s]
      omega
    · have := ih (by omega)
      rw [gh_nu_n f x (by omega)]
      omega
theorem gz_ge {f : Nat → Int} {m : Int} : ∀ n : Nat, (∀ k, k < n → m ≤ f k) → m * n ≤ gz_sm f n := by
  intro n
  induction n with
  | zero => intro _; show m * 0 ≤ 0; omega
  | succ n ih =>
    intro h
    have h1 := ih (fun k hk => h k (by omega))
    have h2 := h n (by omega)
    have e : m * ((n + 1 : Nat) : Int) = m * n + m := by
      rw [show ((n + 1 : Nat) : Int) = (n : Int) + 1 by omega, Int.mul_add, Int.mul_one]
    rw [gz_sm, e]
    omega
theorem gz_lemax {f : Nat → Int} {m : Int} : ∀ n : Nat, (∀ k, k < n → f k ≤ m) → gz_sm f n ≤ m * n := by
  intro n
  induction n with
  | zero => intro _; show 0 ≤ m * 0; omega
  | succ n ih =>
    intro h
    have h1 := ih (fun k hk => h k (by omega))
    have h2 := h n (by omega)
    have e : m * ((n + 1 : Nat) : Int) = m * n + m := by
      rw [show ((n + 1 : Nat) : Int) = (n : Int) + 1 by omega, Int.mul_add, Int.mul_one]
    rw [gz_sm, e]
    omega
section GwDefs
variable (may x fx : Nat → Nat → Bool) (ld p : Nat → Nat) (pw : Nat)
/-- what may be turned: nodes 0 .. 7 bins, 8 .. 19 hours, 20 the end -/
def gw_E1 (b h a v : Nat) (c : Int) : Prop := may b h = true ∧ fx b h = false ∧ c = 0 ∧ ((x b h = true ∧ a = 8 + h ∧ v = b) ∨ (x b h = false ∧ a = b ∧ v = 8 + h))
def gw_E2 (h a v : Nat) (c : Int) : Prop := (ld h < pw ∧ a = 8 + h ∧ v = 20 ∧ c = p h) ∨ (0 < ld h ∧ a = 20 ∧ v = 8 + h ∧ c = -(p h : Int))
def gw_E (a v : Nat) (c : Int) : Prop := (∃ b h, b < 8 ∧ h < 12 ∧ gw_E1 may x fx b h a v c) ∨ (∃ h, h < 12 ∧ gw_E2 ld p pw h a v c)
end GwDefs
/-- a way back to the beginning -/
def gw_Pt (E : Nat → Nat → Int → Prop) (bg : Nat) (D : Nat → Int) (F : Nat → Nat) : Nat → Nat → Prop
  | 0, v => v = bg
  | n + 1, v => v ≠ bg ∧ F v < 21 ∧ D (F v) < 100000000 ∧ (∃ c, E (F v) v c ∧ D (F v) + c ≤ D v) ∧ gw_Pt E bg D F n (F v)
def gw_J (E : Nat → Nat → Int → Prop) (pi : Nat → Int) (bg : Nat) (D : Nat → Int) (F : Nat → Nat) : Prop :=
  D bg = 0 ∧ (∀ v, v < 21 → D v ≤ 100000000 ∧ (D v < 100000000 → pi v - pi bg ≤ D v ∧ ∃ n, gw_Pt E bg D F n v))
def gw_SD (S : gh_St) (bg : Nat) (D : Nat → Int) (F : Nat → Nat) : Prop := ∀ v, v < 21 → S.1 90 v = gq_Z (D v) ∧ (D v < 100000000 → v ≠ bg → S.1 91 v = nI (F v))
def gw_pot (E : Nat → Nat → Int → Prop) (pi : Nat → Int) : Prop := (∀ v, v < 21 → -99 ≤ pi v ∧ pi v ≤ 0) ∧ ∀ a v c, E a v c → pi v ≤ pi a + c ∧ a < 21 ∧ v < 21 ∧ a ≠ v ∧ -99 ≤ c ∧ c ≤ 99
section GwJ
variable {E : Nat → Nat → Int → Prop} {pi : Nat → Int} {bg : Nat} {D : Nat → Int} {F : Nat → Nat}
theorem gw_D_lo (hp : gw_pot E pi) (hbg : bg < 21) (hJ : gw_J E pi bg D F) {v : Nat} (hv : v < 21) : -99 ≤ D v ∧ D v ≤ 100000000 := by
  obtain ⟨h1, h2⟩ := hJ.2 v hv
  refine ⟨?_, h1⟩
  by_cases e : D v < 100000000
  · have := (h2 e).1
    have := hp.1 v hv
    have := hp.1 bg hbg
    omega
  · omega
theorem gw_Pt_r (hp : gw_pot E pi) : ∀ n v, gw_Pt E bg D F (n + 1) v → D (F v) - pi (F v) ≤ D v - pi v := by
  intro n v h
  obtain ⟨-, -, -, ⟨c, h1, h2⟩, -⟩ := h
  have := (hp.2 _ _ _ h1).1
  omega
theorem gw_J_upd (hp : gw_pot E pi) (hbg : bg < 21) (hJ : gw_J E pi bg D F) {a v : Nat} {c : Int} (hE : E a v c) (ha : D a < 100000000) (hlt : D a + c < D v) : gw_J E pi bg (gh_nu D v (D a + c)) (gh_nu F v a) ∧ gz_sm (gh_nu D v (D a + c)) 21 < gz_sm D 21 := by
  obtain ⟨q1, q2, q3, q4, q5, q6⟩ := hp.2 a v c hE
  have hlo := ((hJ.2 a q2).2 ha).1
  have hbv : v ≠ bg := by
    intro e
    rw [e, hJ.1] at hlt
    rw [e] at q1
    omega
  have hDle : ∀ w, gh_nu D v (D a + c) w ≤ D w := by
    intro w
    unfold gh_nu
    split
    · rename_i e
      rw [e]
      omega
    · exact Int.le_refl _
  have keep : ∀ n w, gw_Pt E bg D F n w → D w - pi w ≤ D a - pi a → gw_Pt E bg (gh_nu D v (D a + c)) (gh_nu F v a) n w := by
    intro n
    induction n with
    | zero => intro w h _; exact h
    | succ n ih =>
      intro w h hr
      have hr2 := gw_Pt_r hp n w h
      obtain ⟨h1, h2, h3, ⟨c', h4, h5⟩, h6⟩ := h
      have hwv : w ≠ v := by
        intro e
        rw [e] at hr
        omega
      have hFv : F w ≠ v := by
        intro e
        rw [e] at hr2
        omega
      refine ⟨h1, ?_, ?_, ⟨c', ?_, ?_⟩, ?_⟩
      · rw [gh_nu_n _ _ hwv]; exact h2
      · rw [gh_nu_n _ _ hwv, gh_nu_n _ _ hFv]; exact h3
      · rw [gh_nu_n _ _ hwv]; exact h4
      · rw [gh_nu_n F _ hwv, gh_nu_n D _ hFv, gh_nu_n D _ hwv]; exact h5
      · rw [gh_nu_n _ _ hwv]
        exact ih (F w) h6 (by omega)
  obtain ⟨na, hna⟩ := ((hJ.2 a q2).2 ha).2
  have ha' := keep na a hna (Int.le_refl _)
  have hv' : gw_Pt E bg (gh_nu D v (D a + c)) (gh_nu F v a) (na + 1) v := by
    refine ⟨hbv, ?_, ?_, ⟨c, ?_, ?_⟩, ?_⟩
    · rw [gh_nu_s]; exact q2
    · rw [gh_nu_s, gh_nu_n _ _ q4]; exact ha
    · rw [gh_nu_s]; exact hE
    · rw [gh_nu_s F, gh_nu_n D _ q4, gh_nu_s D]; exact Int.le_refl _
    · rw [gh_nu_s]; exact ha'
  have all : ∀ n w, gw_Pt E bg D F n w → ∃ n', gw_Pt E bg (gh_nu D v (D a + c)) (gh_nu F v a) n' w := by
    intro n
    induction n with
    | zero => intro w h; exact ⟨0, h⟩
    | succ n ih =>
      intro w h
      by_cases e : w = v
      · rw [e]
        exact ⟨na + 1, hv'⟩
      · obtain ⟨h1, h2, h3, ⟨c', h4, h5⟩, h6⟩ := h
        obtain ⟨n', hn'⟩ := ih (F w) h6
        refine ⟨n' + 1, h1, ?_, ?_, ⟨c', ?_, ?_⟩, ?_⟩
        · rw [gh_nu_n _ _ e]; exact h2
        · rw [gh_nu_n _ _ e]
          have := hDle (F w)
          omega
        · rw [gh_nu_n _ _ e]; exact h4
        · rw [gh_nu_n F _ e, gh_nu_n D _ e]
          have := hDle (F w)
          omega
        · rw [gh_nu_n _ _ e]; exact hn'
  refine ⟨⟨by rw [gh_nu_n _ _ (fun w => hbv w.symm)]; exact hJ.1, fun w hw => ?_⟩, ?_⟩
  · obtain ⟨k1, k2⟩ := hJ.2 w hw
    have hle := hDle w
    refine ⟨by omega, fun hl => ?_⟩
    by_cases e : w = v
    · rw [e, gh_nu_s]
      exact ⟨by omega, ⟨na + 1, hv'⟩⟩
    · rw [gh_nu_n _ _ e] at hl ⊢
      obtain ⟨k3, n, k4⟩ := k2 hl
      exact ⟨k3, all n w k4⟩
  · have := gz_nu D v (D a + c) 21 q3
    omega
end GwJ
def gw_CD (c _k : Nat) : Bool := Nat.beq c 90 || Nat.beq c 91
theorem gf_CW_CD : ∀ c k, gw_CD c k = true → gf_CW c k = true := by
  intro c k h
  unfold gw_CD at h
  unfold gf_CW
  simp only [Bool.or_eq_true, Bool.and_eq_true, Nat.beq_eq, Nat.ble_eq] at h ⊢
  omega
/-- the reference's plan -/
def gf_SR (S : gh_St) (x fx : Nat → Nat → Bool) (ld : Nat → Nat) : Prop := (∀ b h, b < 8 → h < 12 → S.1 87 (12 * b + h) = gq_B (x b h) ∧ S.1 88 (12 * b + h) = gq_B (fx b h)) ∧ ∀ h, h < 12 → S.1 89 h = nI (ld h)
theorem gf_SR_fr {S S' : gh_St} {x fx : Nat → Nat → Bool} {ld : Nat → Nat} (h : gf_SR S x fx ld) (hf : gh_fr gw_CD S S') : gf_SR S' x fx ld := ⟨fun b k hb hk => ⟨(hf.1 _ _ rfl).trans (h.1 b k hb hk).1, (hf.1 _ _ rfl).trans (h.1 b k hb hk).2⟩, fun k hk => (hf.1 _ _ rfl).trans (h.2 k hk)⟩
def gw_sat (D : Nat → Int) (a v : Nat) (c : Int) : Prop := D a < 100000000 → D v ≤ D a + c
/-- some lessening -/
def gw_tr (E : Nat → Nat → Int → Prop) (pi : Nat → Int) (bg : Nat) (S : gh_St) (D : Nat → Int) (fl : Bool) (S' : gh_St) (D' : Nat → Int) (fl' : Bool) (dn : Nat → Nat → Int → Prop) : Prop :=
  (∃ F', gw_J E pi bg D' F' ∧ gw_SD S' bg D' F') ∧ gz_sm D' 21 ≤ gz_sm D 21 ∧ (fl' = true → fl = true ∨ gz_sm D' 21 < gz_sm D 21) ∧ (fl' = false → D' = D ∧ fl = false ∧ ∀ a v c, dn a v c → gw_sat D a v c) ∧ gh_fr gw_CD S S'
section GwT
variable {E : Nat → Nat → Int → Prop} {pi : Nat → Int} {bg : Nat} (N : Nat)
theorem gw_tr_refl {S : gh_St} {D : Nat → Int} {F : Nat → Nat} (fl : Bool) (hJ : gw_J E pi bg D F) (hS : gw_SD S bg D F) : gw_tr E pi bg S D fl S D fl (fun _ _ _ => False) :=
  ⟨⟨F, hJ, hS⟩, Int.le_refl _, fun h => Or.inl h, fun h => ⟨rfl, h, fun _ _ _ h => h.elim⟩, gh_fr_refl _ _⟩
theorem gw_tr_trans {S1 S2 S3 : gh_St} {D1 D2 D3 : Nat → Int} {f1 f2 f3 : Bool} {d1 d2 : Nat → Nat → Int → Prop} (h1 : gw_tr E pi bg S1 D1 f1 S2 D2 f2 d1) (h2 : gw_tr E pi bg S2 D2 f2 S3 D3 f3 d2) : gw_tr E pi bg S1 D1 f1 S3 D3 f3 (fun a v c => d1 a v c ∨ d2 a v c) := by
  obtain ⟨-, a2, a3, a4, a5⟩ := h1
  obtain ⟨b1, b2, b3, b4, b5⟩ := h2
  refine ⟨b1, Int.le_trans b2 a2, fun h => ?_, fun h => ?_, gh_fr_trans a5 b5⟩
  · rcases b3 h with q | q
    · rcases a3 q with r | r
      · exact Or.inl r
      · exact Or.inr (by omega)
    · exact Or.inr (by omega)
  · obtain ⟨e1, e2, e3⟩ := b4 h
    obtain ⟨g1, g2, g3⟩ := a4 e2
    refine ⟨e1.trans g1, g2, fun a v c hd => ?_⟩
    rcases hd with hd | hd
    · exact g3 a v c hd
    · rw [← g1]
      exact e3 a v c hd
theorem gw_tr_dn {S1 S2 : gh_St} {D1 D2 : Nat → Int} {f1 f2 : Bool} {d d' : Nat → Nat → Int → Prop} (h : gw_tr E pi bg S1 D1 f1 S2 D2 f2 d) (hd : ∀ a v c, d' a v c → d a v c) : gw_tr E pi bg S1 D1 f1 S2 D2 f2 d' :=
  ⟨h.1, h.2.1, h.2.2.1, fun q => ⟨(h.2.2.2.1 q).1, (h.2.2.2.1 q).2.1, fun a v c hh => (h.2.2.2.1 q).2.2 a v c (hd a v c hh)⟩, h.2.2.2.2⟩
theorem gw_reaches (hp : gw_pot E pi) (hbg : bg < 21) {S : gh_St} {D : Nat → Int} {F : Nat → Nat} (hJ : gw_J E pi bg D F) (hS : gw_SD S bg D F) {a v : Nat} {c : Int} (hE : E a v c) (fl : Bool) : ∃ ok S' D', sX10_reaches N (nI a) (nI v) (gq_Z c) S = some (gq_B ok, S') ∧ gw_tr E pi bg S D fl S' D' (fl || ok) (fun a' v' c' => a' = a ∧ v' = v ∧ c' = c) := by
  obtain ⟨q1, q2, q3, q4, q5, q6⟩ := hp.2 a v c hE
  have b1 := gw_D_lo hp hbg hJ q2
  have b2 := gw_D_lo hp hbg hJ q3
  unfold sX10_reaches
  rw [gh_ra_n q2 (by decide), gq_bs, (hS a q2).1, show (100000000 : Int32) = gq_Z 100000000 from rfl, gq_Z_ge (by omega) (by omega) (by omega) (by omega)]
  by_cases e : (100000000 : Int) ≤ D a
  · rw [decide_eq_true e, cond_true]
    refine ⟨false, S, D, rfl, ⟨F, hJ, hS⟩, Int.le_refl _, fun h => Or.inl (by rw [Bool.or_false] at h; exact h), fun h => ⟨rfl, by rw [Bool.or_false] at h; exact h, fun a' v' c' hd => ?_⟩, gh_fr_refl _ _⟩
    rw [hd.1]
    intro hl
    omega
  · rw [decide_eq_false e, cond_false, gq_bs, gh_ra_n q3 (by decide), gq_bs, (hS v q3).1, gq_Z_add, gq_Z_lt (by omega) (by omega) (by omega) (by omega)]
    by_cases e2 : D a + c < D v
    · obtain ⟨u1, u2⟩ := gw_J_upd hp hbg hJ hE (by omega) e2
      rw [decide_eq_true e2, cond_true, gq_bs, gq_Z_add, gh_wa_n q3 (by decide), gq_bs, gh_wa_n q3 (by decide), gq_bs]
      refine ⟨true, _, gh_nu D v (D a + c), rfl, ⟨gh_nu F v a, u1, fun w hw => ?_⟩, by omega, fun _ => Or.inr u2, (fun h => by rw [Bool.or_true] at h; cases h), gh_fr_fI (gh_fr_fI (gh_fr_refl _ _) rfl) rfl⟩
      simp only [gh_fI_1]
      by_cases ew : w = v
      · subst ew
        simp [gh_nu_s]
      · rw [gh_nu_n _ _ ew, gh_nu_n _ _ ew]
        simp [ew]
        exact hS w hw
    · rw [decide_eq_false e2, cond_false]
      refine ⟨false, S, D, rfl, ⟨F, hJ, hS⟩, Int.le_refl _, fun h => Or.inl (by rw [Bool.or_false] at h; exact h), fun h => ⟨rfl, by rw [Bool.or_false] at h; exact h, fun a' v' c' hd => ?_⟩, gh_fr_refl _ _⟩
      obtain ⟨h1, h2, h3⟩ := hd
      subst h1
      subst h2
      subst h3
      intro _
      omega
end GwT
section GwW
variable {dr : Nat → Bool} {p nd li : Nat → Nat} {pw : Nat} {x fx : Nat → Nat → Bool} {ld : Nat → Nat} {pi : Nat → Int} {bg : Nat} (N : Nat)
theorem gf_mayR {S : gh_St} (hR : gf_RS S dr p nd li pw) {b h : Nat} (hb : b < 8) (hh : h < 12) : sX10_may N (nI b) (nI h) S = some (gq_B (gf_may dr li b h), S) := by
  have h1 := (hR.2.2.2.2.1 h hh).2.1
  obtain ⟨-, -, -, h2, -, h3⟩ := hR.2.2.2.2.2 b hb
  unfold sX10_may gf_may
  rw [gh_ra_n hh (by decide), gq_bs, h1, gq_B_eq, gh_ra_n hb (by decide), gq_bs, h2, gh_n_ge (by omega) (by omega)]
  cases dr h with
  | false => rfl
  | true =>
    rw [Bool.not_true, cond_false, Bool.true_and]
    by_cases e : li b ≤ h
    · rw [decide_eq_true e, cond_true, show Nat.blt h (li b) = false from gf_bf (fun w => by have := Nat.blt_eq.mp w; omega)]
      rfl
    · rw [decide_eq_false e, cond_false, show Nat.blt h (li b) = true from Nat.blt_eq.mpr (by omega)]
      rfl
/-- the edges of a bin from hour k on -/
def gw_dB (may x fx : Nat → Nat → Bool) (b k a v : Nat) (c : Int) : Prop := ∃ h, k ≤ h ∧ h < 12 ∧ gw_E1 may x fx b h a v c
def gw_dH (ld p : Nat → Nat) (pw k a v : Nat) (c : Int) : Prop := ∃ h, k ≤ h ∧ h < 12 ∧ gw_E2 ld p pw h a v c
theorem gw_121 (kc33 : Int32 → gh_St → Option gh_St) (kc41 : Int32 → Int32 → gh_St → Option gh_St) (kc50 : Int32 → Int32 → Int32 → gh_St → Option gh_St) (fl ok : Bool) (l3 : Int32) (h : Nat) (S : gh_St) : sX10_walks_121 N kc33 kc41 kc50 (gq_B fl) l3 (nI h) (gq_B ok) S = kc50 (gq_B (fl || ok)) l3 (nI (h + 1)) S := by
  unfold sX10_walks_121 sX10_walks_132 sX10_walks_137 sX10_walks_138
  rw [gq_B_ne, gq_B_eq, nI_1]
  cases fl <;> cases ok <;> rfl
theorem gw_w50 (hp : gw_pot (gw_E (gf_may dr li) x fx ld p pw) pi) (hbg : bg < 21) {b : Nat} (hb : b < 8) (kc33 : Int32 → gh_St → Option gh_St) (kc41 : Int32 → Int32 → gh_St → Option gh_St) : ∀ (j k fu : Nat) (S : gh_St) (D : Nat → Int) (F : Nat → Nat) (fl : Bool), k + j = 12 → j < fu → gf_RS S dr p nd li pw → gf_SR S x fx ld → gw_J (gw_E (gf_may dr li) x fx ld p pw) pi bg D F → gw_SD S bg D F → ∃ S' D' fl', sX10_walks_50 N kc33 kc41 fu (gq_B fl) (nI b) (nI k) S = kc41 (gq_B fl') (nI (b + 1)) S' ∧ gw_tr (gw_E (gf_may dr li) x fx ld p pw) pi bg S D fl S' D' fl' (gw_dB (gf_may dr li) x fx b k) := by
  intro j
  induction j with
  | zero =>
    intro k fu S D F fl hk hfu hR hX hJ hS
    obtain ⟨fu, rfl⟩ : ∃ w, fu = w + 1 := ⟨fu - 1, by omega⟩
    rw [sX10_walks_50, show gh_cmp .ge (nI k) 12 = decide (12 ≤ k) from gh_n_ge (b := 12) (by omega) (by omega), decide_eq_true (by omega), cond_true, nI_1]
    refine ⟨S, D, fl, rfl, gw_tr_dn (gw_tr_refl fl hJ hS) (fun a v c hd => ?_)⟩
    obtain ⟨h, h1, h2, -⟩ := hd
    omega
  | succ j ih =>
    intro k fu S D F fl hk hfu hR hX hJ hS
    obtain ⟨fu, rfl⟩ : ∃ w, fu = w + 1 := ⟨fu - 1, by omega⟩
    have hk12 : k < 12 := by omega
    have e12 : (12 : Int32) * nI b + nI k = nI (12 * b + k) := by
      rw [show (12 : Int32) = nI 12 from rfl, pk_mul, nI_add]
    have e8 : (8 : Int32) + nI k = nI (8 + k) := nI_add 8 k
    rw [sX10_walks_50, show gh_cmp .ge (nI k) 12 = decide (12 ≤ k) from gh_n_ge (b := 12) (by omega) (by omega), decide_eq_false (by omega), cond_false, gf_mayR N hR hb hk12, gq_bs]
    show ∃ S' D' fl', (bif gh_cmp .eq (gq_B (gf_may dr li b k)) 0 then _ else _) = _ ∧ _
    rw [gq_B_eq]
    obtain ⟨x1, x2⟩ := hX.1 b k hb hk12
    have next : ∀ (S1 : gh_St) (D1 : Nat → Int) (fl1 : Bool) (d1 : Nat → Nat → Int → Prop), gw_tr (gw_E (gf_may dr li) x fx ld p pw) pi bg S D fl S1 D1 fl1 d1 → (∀ a v c, gw_E1 (gf_may dr li) x fx b k a v c → d1 a v c) → ∃ S' D' fl', sX10_walks_50 N kc33 kc41 fu (gq_B fl1) (nI b) (nI (k + 1)) S1 = kc41 (gq_B fl') (nI (b + 1)) S' ∧ gw_tr (gw_E (gf_may dr li) x fx ld p pw) pi bg S D fl S' D' fl' (gw_dB (gf_may dr li) x fx b k) := by
      intro S1 D1 fl1 d1 ht hd1
      obtain ⟨F1, hJ1, hS1⟩ := ht.1
      have f1 := ht.2.2.2.2
      obtain ⟨S', D', fl', a1, a2⟩ := ih (k + 1) fu S1 D1 F1 fl1 (by omega) (by omega) (gf_RS_fr hR (gh_fr_mono f1 gf_CW_CD)) (gf_SR_fr hX f1) hJ1 hS1
      refine ⟨S', D', fl', a1, gw_tr_dn (gw_tr_trans ht a2) (fun a v c hd => ?_)⟩
      obtain ⟨h, h1, h2, h3⟩ := hd
      by_cases e : h = k
      · subst e
        exact Or.inl (hd1 a v c h3)
      · exact Or.inr ⟨h, by omega, h2, h3⟩
    have skip : (gf_may dr li b k = false ∨ fx b k = true) → ∃ S' D' fl', sX10_walks_138 N kc33 kc41 (sX10_walks_50 N kc33 kc41 fu) (gq_B fl) (nI b) (nI k) S = kc41 (gq_B fl') (nI (b + 1)) S' ∧ gw_tr (gw_E (gf_may dr li) x fx ld p pw) pi bg S D fl S' D' fl' (gw_dB (gf_may dr li) x fx b k) := by
      intro hs
      unfold sX10_walks_138
      rw [nI_1]
      refine next S D fl _ (gw_tr_refl fl hJ hS) (fun a v c hd => ?_)
      obtain ⟨h1, h2, -⟩ := hd
      rcases hs with q | q
      · rw [h1] at q; cases q
      · rw [h2] at q; cases q
    cases hm : gf_may dr li b k with
    | false =>
      rw [Bool.not_false, cond_true]
      exact skip (Or.inl hm)
    | true =>
      rw [Bool.not_true, cond_false, e12, gh_ra_n (by omega) (by decide), gq_bs, x2, gq_B_ne]
      cases hf : fx b k with
      | true =>
        rw [cond_true]
        exact skip (Or.inr hf)
      | false =>
        rw [cond_false, gh_ra_n (by omega) (by decide), gq_bs, x1, gq_B_eq, e8, show (0 : Int32) = gq_Z 0 from rfl]
        cases hx : x b k with
        | false =>
          rw [Bool.not_false, cond_true]
          have hE : gw_E (gf_may dr li) x fx ld p pw b (8 + k) 0 := Or.inl ⟨b, k, hb, hk12, hm, hf, rfl, Or.inr ⟨hx, rfl, rfl⟩⟩
          obtain ⟨ok, S1, D1, r1, r2⟩ := gw_reaches N hp hbg hJ hS hE fl
          rw [r1, gq_bs, gw_121]
          refine next S1 D1 _ _ r2 (fun a v c hd => ?_)
          obtain ⟨-, -, h3, h4⟩ := hd
          rcases h4 with ⟨q, -⟩ | ⟨-, q1, q2⟩
          · rw [hx] at q; cases q
          · exact ⟨q1, q2, h3⟩
        | true =>
          rw [Bool.not_true, cond_false]
          have hE : gw_E (gf_may dr li) x fx ld p pw (8 + k) b 0 := Or.inl ⟨b, k, hb, hk12, hm, hf, rfl, Or.inl ⟨hx, rfl, rfl⟩⟩
          obtain ⟨ok, S1, D1, r1, r2⟩ := gw_reaches N hp hbg hJ hS hE fl
          rw [r1, gq_bs, gw_121]
          refine next S1 D1 _ _ r2 (fun a v c hd => ?_)
          obtain ⟨-, -, h3, h4⟩ := hd
          rcases h4 with ⟨-, q1, q2⟩ | ⟨q, -⟩
          · exact ⟨q1, q2, h3⟩
          · rw [hx] at q; cases q
theorem gw_231 (kc33 : Int32 → gh_St → Option gh_St) (kc152 : Int32 → Int32 → gh_St → Option gh_St) (fl o1 o2 : Bool) (h : Nat) (S : gh_St) : sX10_walks_231 N kc33 kc152 (gq_B fl) (nI h) (gq_B o1) (gq_B o2) S = kc152 (gq_B ((fl || o1) || o2)) (nI (h + 1)) S := by
  unfold sX10_walks_231 sX10_walks_247 sX10_walks_252
  rw [gq_B_ne, gq_B_ne, gq_B_eq, nI_1]
  cases fl <;> cases o1 <;> cases o2 <;> rfl
theorem gw_w152 (hp : gw_pot (gw_E (gf_may dr li) x fx ld p pw) pi) (hbg : bg < 21) (hld8 : ∀ h, h < 12 → ld h ≤ 8) (kc33 : Int32 → gh_St → Option gh_St) : ∀ (j k fu : Nat) (S : gh_St) (D : Nat → Int) (F : Nat → Nat) (fl : Bool), k + j = 12 → j < fu → gf_RS S dr p nd li pw → gf_SR S x fx ld → gw_J (gw_E (gf_may dr li) x fx ld p pw) pi bg D F → gw_SD S bg D F → ∃ S' D' fl', sX10_walks_152 N kc33 fu (gq_B fl) (nI k) S = kc33 (gq_B fl') S' ∧ gw_tr (gw_E (gf_may dr li) x fx ld p pw) pi bg S D fl S' D' fl' (gw_dH ld p pw k) := by
  intro j
  induction j with
  | zero =>
    intro k fu S D F fl hk hfu hR hX hJ hS
    obtain ⟨fu, rfl⟩ : ∃ w, fu = w + 1 := ⟨fu - 1, by omega⟩
    rw [sX10_walks_152, show gh_cmp .ge (nI k) 12 = decide (12 ≤ k) from gh_n_ge (b := 12) (by omega) (by omega), decide_eq_true (by omega), cond_true]
    refine ⟨S, D, fl, rfl, gw_tr_dn (gw_tr_refl fl hJ hS) (fun a v c hd => ?_)⟩
    obtain ⟨h, h1, h2, -⟩ := hd
    omega
  | succ j ih =>
    intro k fu S D F fl hk hfu hR hX hJ hS
    obtain ⟨fu, rfl⟩ : ∃ w, fu = w + 1 := ⟨fu - 1, by omega⟩
    have hk12 : k < 12 := by omega
    have e8 : (8 : Int32) + nI k = nI (8 + k) := nI_add 8 k
    have hl8 := hld8 k hk12
    have hp8 := hR.2.1
    have hnext : ∀ (S1 : gh_St) (D1 : Nat → Int) (fl1 : Bool) (d1 : Nat → Nat → Int → Prop), gw_tr (gw_E (gf_may dr li) x fx ld p pw) pi bg S D fl S1 D1 fl1 d1 → (∀ a v c, gw_E2 ld p pw k a v c → d1 a v c) → ∃ S' D' fl', sX10_walks_152 N kc33 fu (gq_B fl1) (nI (k + 1)) S1 = kc33 (gq_B fl') S' ∧ gw_tr (gw_E (gf_may dr li) x fx ld p pw) pi bg S D fl S' D' fl' (gw_dH ld p pw k) := by
      intro S1 D1 fl1 d1 ht hd1
      obtain ⟨F1, hJ1, hS1⟩ := ht.1
      have f1 := ht.2.2.2.2
      obtain ⟨S', D', fl', a1, a2⟩ := ih (k + 1) fu S1 D1 F1 fl1 (by omega) (by omega) (gf_RS_fr hR (gh_fr_mono f1 gf_CW_CD)) (gf_SR_fr hX f1) hJ1 hS1
      refine ⟨S', D', fl', a1, gw_tr_dn (gw_tr_trans ht a2) (fun a v c hd => ?_)⟩
      obtain ⟨h, h1, h2, h3⟩ := hd
      by_cases e : h = k
      · subst e
        exact Or.inl (hd1 a v c h3)
      · exact Or.inr ⟨h, by omega, h2, h3⟩
    have h195 : ∀ (S1 : gh_St) (D1 : Nat → Int) (o1 : Bool) (d1 : Nat → Nat → Int → Prop), gw_tr (gw_E (gf_may dr li) x fx ld p pw) pi bg S D fl S1 D1 (fl || o1) d1 → (∀ (a v : Nat) (c : Int), ld k < pw → a = 8 + k → v = 20 → c = p k → d1 a v c) → ∃ S' D' fl', sX10_walks_195 N kc33 (sX10_walks_152 N kc33 fu) (gq_B fl) (nI k) (gq_B o1) S1 = kc33 (gq_B fl') S' ∧ gw_tr (gw_E (gf_may dr li) x fx ld p pw) pi bg S D fl S' D' fl' (gw_dH ld p pw k) := by
      intro S1 D1 o1 d1 ht hd1
      obtain ⟨F1, hJ1, hS1⟩ := ht.1
      have f1 := ht.2.2.2.2
      have hR1 := gf_RS_fr hR (gh_fr_mono f1 gf_CW_CD)
      have hX1 := gf_SR_fr hX f1
      unfold sX10_walks_195
      rw [gh_ra_n hk12 (by decide), gq_bs, hX1.2 k hk12, show gh_cmp .le (nI (ld k)) 0 = decide (ld k ≤ 0) from gh_n_le (b := 0) (by omega) (by omega)]
      by_cases e : 0 < ld k
      · rw [decide_eq_false (by omega), cond_false, gh_ra_n hk12 (by decide), gq_bs, (hR1.2.2.2.2.1 k hk12).2.2.2.1, ← gq_Z_n (p k), gq_Z_neg, e8]
        have hE : gw_E (gf_may dr li) x fx ld p pw 20 (8 + k) (-(p k : Int)) := Or.inr ⟨k, hk12, Or.inr ⟨e, rfl, rfl, rfl⟩⟩
        obtain ⟨ok, S2, D2, r1, r2⟩ := gw_reaches N hp hbg hJ1 hS1 hE (fl || o1)
        have r1' : sX10_reaches N 20 (nI (8 + k)) (gq_Z (-(p k : Int))) S1 = some (gq_B ok, S2) := r1
        rw [r1', gq_bs]
        have hcode : (bif gh_cmp .eq (gq_B ok) 0 then sX10_walks_230 N kc33 (sX10_walks_152 N kc33 fu) (gq_B fl) (nI k) (gq_B o1) S2 else sX10_walks_231 N kc33 (sX10_walks_152 N kc33 fu) (gq_B fl) (nI k) (gq_B o1) 1 S2) = sX10_walks_152 N kc33 fu (gq_B ((fl || o1) || ok)) (nI (k + 1)) S2 := by
          rw [gq_B_eq]
          cases ok with
          | false =>
            rw [Bool.not_false, cond_true]
            exact gw_231 N kc33 _ fl o1 false k S2
          | true =>
            rw [Bool.not_true, cond_false]
            exact gw_231 N kc33 _ fl o1 true k S2
        show ∃ S' D' fl', (bif gh_cmp .eq (gq_B ok) 0 then sX10_walks_230 N kc33 (sX10_walks_152 N kc33 fu) (gq_B fl) (nI k) (gq_B o1) S2 else sX10_walks_231 N kc33 (sX10_walks_152 N kc33 fu) (gq_B fl) (nI k) (gq_B o1) 1 S2) = _ ∧ _
        rw [hcode]
        refine hnext S2 D2 _ _ (gw_tr_trans ht r2) (fun a v c hd => ?_)
        rcases hd with ⟨q1, q2, q3, q4⟩ | ⟨q1, q2, q3, q4⟩
        · exact Or.inl (hd1 a v c q1 q2 q3 q4)
        · exact Or.inr ⟨q2, q3, q4⟩
      · rw [decide_eq_true (by omega), cond_true]
        unfold sX10_walks_230
        rw [show (0 : Int32) = gq_B false from rfl, gw_231, Bool.or_false]
        refine hnext S1 D1 _ _ ht (fun a v c hd => ?_)
        rcases hd with ⟨q1, q2, q3, q4⟩ | ⟨q1, q2, q3, q4⟩
        · exact hd1 a v c q1 q2 q3 q4
        · exact absurd q1 e
    rw [sX10_walks_152, show gh_cmp .ge (nI k) 12 = decide (12 ≤ k) from gh_n_ge (b := 12) (by omega) (by omega), decide_eq_false (by omega), cond_false, gh_ra_n hk12 (by decide), gq_bs, hX.2 k hk12, hR.2.2.2.1, gh_n_ge (by omega) (by omega)]
    by_cases e : pw ≤ ld k
    · rw [decide_eq_true e, cond_true]
      unfold sX10_walks_194
      exact h195 S D false _ (by rw [Bool.or_false]; exact gw_tr_refl fl hJ hS) (fun a v c hl => by omega)
    · rw [decide_eq_false e, cond_false, gh_ra_n hk12 (by decide), gq_bs, (hR.2.2.2.2.1 k hk12).2.2.2.1, ← gq_Z_n (p k), e8]
      have hE : gw_E (gf_may dr li) x fx ld p pw (8 + k) 20 (p k : Int) := Or.inr ⟨k, hk12, Or.inl ⟨by omega, rfl, rfl, rfl⟩⟩
      obtain ⟨ok, S1, D1, r1, r2⟩ := gw_reaches N hp hbg hJ hS hE fl
      have r1' : sX10_reaches N (nI (8 + k)) 20 (gq_Z (p k : Int)) S = some (gq_B ok, S1) := r1
      rw [r1', gq_bs]
      have hcode : (bif gh_cmp .eq (gq_B ok) 0 then sX10_walks_194 N kc33 (sX10_walks_152 N kc33 fu) (gq_B fl) (nI k) S1 else sX10_walks_195 N kc33 (sX10_walks_152 N kc33 fu) (gq_B fl) (nI k) 1 S1) = sX10_walks_195 N kc33 (sX10_walks_152 N kc33 fu) (gq_B fl) (nI k) (gq_B ok) S1 := by
        rw [gq_B_eq]
        cases ok <;> rfl
      show ∃ S' D' fl', (bif gh_cmp .eq (gq_B ok) 0 then sX10_walks_194 N kc33 (sX10_walks_152 N kc33 fu) (gq_B fl) (nI k) S1 else sX10_walks_195 N kc33 (sX10_walks_152 N kc33 fu) (gq_B fl) (nI k) 1 S1) = _ ∧ _
      rw [hcode]
      exact h195 S1 D1 ok _ r2 (fun a v c _ q2 q3 q4 => ⟨q2, q3, q4⟩)
theorem gw_w41 (hN : 100 ≤ N) (hp : gw_pot (gw_E (gf_may dr li) x fx ld p pw) pi) (hbg : bg < 21) (hld8 : ∀ h, h < 12 → ld h ≤ 8) (kc33 : Int32 → gh_St → Option gh_St) : ∀ (j b fu : Nat) (S : gh_St) (D : Nat → Int) (F : Nat → Nat) (fl : Bool), b + j = 8 → j < fu → gf_RS S dr p nd li pw → gf_SR S x fx ld → gw_J (gw_E (gf_may dr li) x fx ld p pw) pi bg D F → gw_SD S bg D F → ∃ S' D' fl', sX10_walks_41 N kc33 fu (gq_B fl) (nI b) S = kc33 (gq_B fl') S' ∧ gw_tr (gw_E (gf_may dr li) x fx ld p pw) pi bg S D fl S' D' fl' (fun a v c => (∃ b' h, b ≤ b' ∧ b' < 8 ∧ h < 12 ∧ gw_E1 (gf_may dr li) x fx b' h a v c) ∨ ∃ h, h < 12 ∧ gw_E2 ld p pw h a v c) := by
  intro j
  induction j with
  | zero =>
    intro b fu S D F fl hk hfu hR hX hJ hS
    obtain ⟨fu, rfl⟩ : ∃ w, fu = w + 1 := ⟨fu - 1, by omega⟩
    rw [sX10_walks_41, show gh_cmp .ge (nI b) 8 = decide (8 ≤ b) from gh_n_ge (b := 8) (by omega) (by omega), decide_eq_true (by omega), cond_true]
    obtain ⟨S', D', fl', a1, a2⟩ := gw_w152 (dr := dr) (p := p) (nd := nd) (li := li) (pw := pw) (x := x) (fx := fx) (ld := ld) (pi := pi) (bg := bg) N hp hbg hld8 kc33 12 0 N S D F fl (by omega) (by omega) hR hX hJ hS
    refine ⟨S', D', fl', a1, gw_tr_dn a2 (fun a v c hd => ?_)⟩
    rcases hd with ⟨b', h, h1, h2, -⟩ | ⟨h, h1, h2⟩
    · omega
    · exact ⟨h, Nat.zero_le _, h1, h2⟩
  | succ j ih =>
    intro b fu S D F fl hk hfu hR hX hJ hS
    obtain ⟨fu, rfl⟩ : ∃ w, fu = w + 1 := ⟨fu - 1, by omega⟩
    rw [sX10_walks_41, show gh_cmp .ge (nI b) 8 = decide (8 ≤ b) from gh_n_ge (b := 8) (by omega) (by omega), decide_eq_false (by omega), cond_false]
    obtain ⟨S1, D1, fl1, a1, a2⟩ := gw_w50 (dr := dr) (p := p) (nd := nd) (li := li) (pw := pw) (x := x) (fx := fx) (ld := ld) (pi := pi) (bg := bg) N hp hbg (show b < 8 by omega) kc33 (sX10_walks_41 N kc33 fu) 12 0 N S D F fl (by omega) (by omega) hR hX hJ hS
    obtain ⟨F1, hJ1, hS1⟩ := a2.1
    have f1 := a2.2.2.2.2
    obtain ⟨S', D', fl', b1, b2⟩ := ih (b + 1) fu S1 D1 F1 fl1 (by omega) (by omega) (gf_RS_fr hR (gh_fr_mono f1 gf_CW_CD)) (gf_SR_fr hX f1) hJ1 hS1
    refine ⟨S', D', fl', a1.trans b1, gw_tr_dn (gw_tr_trans a2 b2) (fun a v c hd => ?_)⟩
    rcases hd with ⟨b', h, h1, h2, h3, h4⟩ | ⟨h, h1, h2⟩
    · by_cases e : b' = b
      · subst e
        exact Or.inl ⟨h, Nat.zero_le _, h3, h4⟩
      · exact Or.inr (Or.inl ⟨b', h, by omega, h2, h3, h4⟩)
    · exact Or.inr (Or.inr ⟨h, h1, h2⟩)
theorem gw_w33 (hN : 3000000000 ≤ N) (hp : gw_pot (gw_E (gf_may dr li) x fx ld p pw) pi) (hbg : bg < 21) (hld8 : ∀ h, h < 12 → ld h ≤ 8) : ∀ (s fu : Nat) (S : gh_St) (D : Nat → Int) (F : Nat → Nat), (gz_sm D 21 + 3000).toNat ≤ s → s + 1 < fu → gf_RS S dr p nd li pw → gf_SR S x fx ld → gw_J (gw_E (gf_may dr li) x fx ld p pw) pi bg D F → gw_SD S bg D F → ∃ S' D' F', sX10_walks_33 N fu 1 S = some S' ∧ gw_J (gw_E (gf_may dr li) x fx ld p pw) pi bg D' F' ∧ gw_SD S' bg D' F' ∧ (∀ a v c, gw_E (gf_may dr li) x fx ld p pw a v c → gw_sat D' a v c) ∧ gh_fr gw_CD S S' := by
  intro s
  induction s using Nat.strongRecOn with
  | ind s ih =>
    intro fu S D F hs hfu hR hX hJ hS
    obtain ⟨fu, rfl⟩ : ∃ w, fu = w + 1 := ⟨fu - 1, by omega⟩
    rw [sX10_walks_33, show gh_cmp .eq (1 : Int32) 0 = false from rfl, cond_false]
    obtain ⟨S1, D1, fl1, a1, a2⟩ := gw_w41 (dr := dr) (p := p) (nd := nd) (li := li) (pw := pw) (x := x) (fx := fx) (ld := ld) (pi := pi) (bg := bg) N (by omega) hp hbg hld8 (sX10_walks_33 N fu) 8 0 N S D F false (by omega) (by omega) hR hX hJ hS
    have a1' : sX10_walks_41 N (sX10_walks_33 N fu) N 0 0 S = sX10_walks_33 N fu (gq_B fl1) S1 := a1
    rw [a1']
    obtain ⟨F1, hJ1, hS1⟩ := a2.1
    have f1 := a2.2.2.2.2
    have hlow : -2079 ≤ gz_sm D1 21 := by
      have := gz_ge (f := D1) (m := -99) 21 (fun k hk => (gw_D_lo hp hbg hJ1 hk).1)
      omega
    cases fl1 with
    | false =>
      obtain ⟨e1, -, e3⟩ := a2.2.2.2.1 rfl
      obtain ⟨fu, rfl⟩ : ∃ w, fu = w + 1 := ⟨fu - 1, by omega⟩
      refine ⟨S1, D1, F1, rfl, hJ1, hS1, fun a v c hE => ?_, f1⟩
      rw [e1]
      refine e3 a v c ?_
      rcases hE with ⟨b, h, h1, h2, h3⟩ | ⟨h, h1, h2⟩
      · exact Or.inl ⟨b, h, Nat.zero_le _, h1, h2, h3⟩
      · exact Or.inr ⟨h, h1, h2⟩
    | true =>
      rcases a2.2.2.1 rfl with q | q
      · cases q
      · obtain ⟨S', D', F', b1, b2, b3, b4, b5⟩ := ih (gz_sm D1 21 + 3000).toNat (by omega) fu S1 D1 F1 (Nat.le_refl _) (by omega) (gf_RS_fr hR (gh_fr_mono f1 gf_CW_CD)) (gf_SR_fr hX f1) hJ1 hS1
        exact ⟨S', D', F', b1, b2, b3, b4, gh_fr_trans f1 b5⟩
def gw_D0 (bg v : Nat) : Int := if v = bg then 0 else 100000000
theorem gw_w2 (hbg : bg < 21) : ∀ (j k fu : Nat) (S : gh_St), k + j = 21 → j < fu → (∀ v, v < k → S.1 90 v = gq_Z (gw_D0 bg v)) → ∃ S', sX10_walks_2 N fu (nI bg) (nI k) S = sX10_walks_33 N N 1 S' ∧ (∀ v, v < 21 → S'.1 90 v = gq_Z (gw_D0 bg v)) ∧ gh_fr gw_CD S S' := by
  intro j
  induction j with
  | zero =>
    intro k fu S hk hfu hd
    obtain ⟨fu, rfl⟩ : ∃ w, fu = w + 1 := ⟨fu - 1, by omega⟩
    rw [sX10_walks_2, show gh_cmp .ge (nI k) 21 = decide (21 ≤ k) from gh_n_ge (b := 21) (by omega) (by omega), decide_eq_true (by omega), cond_true]
    exact ⟨S, rfl, fun v hv => hd v (by omega), gh_fr_refl _ _⟩
  | succ j ih =>
    intro k fu S hk hfu hd
    obtain ⟨fu, rfl⟩ : ∃ w, fu = w + 1 := ⟨fu - 1, by omega⟩
    rw [sX10_walks_2, show gh_cmp .ge (nI k) 21 = decide (21 ≤ k) from gh_n_ge (b := 21) (by omega) (by omega), decide_eq_false (by omega), cond_false, gh_n_ne (by omega) (by omega)]
    have go : ∀ z : Int32, z = gq_Z (gw_D0 bg k) → ∃ S', sX10_walks_24 N (sX10_walks_2 N fu) (nI bg) (nI k) z (nI k) S = sX10_walks_33 N N 1 S' ∧ (∀ v, v < 21 → S'.1 90 v = gq_Z (gw_D0 bg v)) ∧ gh_fr gw_CD S S' := by
      intro z hz
      unfold sX10_walks_24
      rw [gh_wa_n (by omega) (by decide), gq_bs, nI_1]
      have f1 : gh_fr gw_CD S (gh_fI S 90 k z) := gh_fr_fI (gh_fr_refl _ _) rfl
      obtain ⟨S', a1, a2, a3⟩ := ih (k + 1) fu (gh_fI S 90 k z) (by omega) (by omega) (fun v hv => by
        rw [gh_fI_1]
        by_cases e : v = k
        · rw [if_pos ⟨rfl, e⟩, e, hz]
        · rw [if_neg (fun w => e w.2)]
          exact hd v (by omega))
      exact ⟨S', a1, a2, gh_fr_trans f1 a3⟩
    by_cases e : k = bg
    · rw [decide_eq_false (not_not_intro e), cond_false]
      refine go 0 ?_
      unfold gw_D0
      rw [if_pos e]
      rfl
    · rw [decide_eq_true e, cond_true]
      refine go 100000000 ?_
      unfold gw_D0
      rw [if_neg e]
      rfl
theorem gw_walks (hN : 3000000000 ≤ N) (hp : gw_pot (gw_E (gf_may dr li) x fx ld p pw) pi) (hbg : bg < 21) (hld8 : ∀ h, h < 12 → ld h ≤ 8) {S : gh_St} (hR : gf_RS S dr p nd li pw) (hX : gf_SR S x fx ld) : ∃ S' D F, sX10_walks N (nI bg) S = some S' ∧ gw_J (gw_E (gf_may dr li) x fx ld p pw) pi bg D F ∧ gw_SD S' bg D F ∧ (∀ a v c, gw_E (gf_may dr li) x fx ld p pw a v c → gw_sat D a v c) ∧ gh_fr gw_CD S S' := by
  obtain ⟨S1, a1, a2, a3⟩ := gw_w2 (bg := bg) N hbg 21 0 N S (by omega) (by omega) (fun v hv => absurd hv (Nat.not_lt_zero _))
  have hJ0 : gw_J (gw_E (gf_may dr li) x fx ld p pw) pi bg (gw_D0 bg) (fun _ => 0) := by
    refine ⟨if_pos rfl, fun v hv => ?_⟩
    unfold gw_D0
    by_cases e : v = bg
    · rw [if_pos e]
      refine ⟨by omega, fun _ => ⟨by rw [e]; omega, 0, e⟩⟩
    · rw [if_neg e]
      exact ⟨Int.le_refl _, fun h => absurd h (Int.lt_irrefl _)⟩
  have hS0 : gw_SD S1 bg (gw_D0 bg) (fun _ => 0) := fun v hv => ⟨a2 v hv, fun h hne => by
    unfold gw_D0 at h
    rw [if_neg hne] at h
    omega⟩
  have hsum := gz_lemax (f := gw_D0 bg) (m := 100000000) 21 (fun k hk => by unfold gw_D0; split <;> omega)
  obtain ⟨S2, D, F, b1, b2, b3, b4, b5⟩ := gw_w33 (dr := dr) (p := p) (nd := nd) (li := li) (pw := pw) (x := x) (fx := fx) (ld := ld) (pi := pi) (bg := bg) N hN hp hbg hld8 (gz_sm (gw_D0 bg) 21 + 3000).toNat N S1 (gw_D0 bg) (fun _ => 0) (Nat.le_refl _) (by omega) (gf_RS_fr hR (gh_fr_mono a3 gf_CW_CD)) (gf_SR_fr hX a3) hJ0 hS0
  refine ⟨S2, D, F, ?_, b2, b3, b4, gh_fr_trans a3 b5⟩
  exact a1.trans b1
end GwW
