/-! ===== FANS: the reference's turns ===== -/
section GwC
variable {E : Nat → Nat → Int → Prop} {bg : Nat} {D : Nat → Int} {F : Nat → Nat}
theorem gw_Pt_u : ∀ m m' v, gw_Pt E bg D F m v → gw_Pt E bg D F m' v → m = m' := by
  intro m
  induction m with
  | zero =>
    intro m' v h h'
    cases m' with
    | zero => rfl
    | succ m' => exact absurd h h'.1
  | succ m ih =>
    intro m' v h h'
    cases m' with
    | zero => exact absurd h' h.1
    | succ m' => rw [ih m' (F v) h.2.2.2.2 h'.2.2.2.2]
def gw_ch (F : Nat → Nat) : Nat → Nat → List Nat
  | 0, v => [v]
  | n + 1, v => v :: gw_ch F n (F v)
theorem gw_ch_mem : ∀ n v, gw_Pt E bg D F n v → v < 21 → ∀ w, w ∈ gw_ch F n v → w < 21 ∧ ∃ m, m ≤ n ∧ gw_Pt E bg D F m w := by
  intro n
  induction n with
  | zero =>
    intro v h hv w hw
    rw [gw_ch, List.mem_singleton] at hw
    rw [hw]
    exact ⟨hv, 0, Nat.le_refl _, h⟩
  | succ n ih =>
    intro v h hv w hw
    rcases List.mem_cons.mp hw with e | hw
    · rw [e]
      exact ⟨hv, n + 1, Nat.le_refl _, h⟩
    · obtain ⟨h1, m, h2, h3⟩ := ih (F v) h.2.2.2.2 h.2.1 w hw
      exact ⟨h1, m, by omega, h3⟩
theorem gw_ch_nd : ∀ n v, gw_Pt E bg D F n v → v < 21 → (gw_ch F n v).Nodup := by
  intro n
  induction n with
  | zero => intro v _ _; exact List.nodup_cons.mpr ⟨List.not_mem_nil, List.nodup_nil⟩
  | succ n ih =>
    intro v h hv
    refine List.nodup_cons.mpr ⟨fun hm => ?_, ih (F v) h.2.2.2.2 h.2.1⟩
    obtain ⟨-, m, h2, h3⟩ := gw_ch_mem n (F v) h.2.2.2.2 h.2.1 v hm
    have := gw_Pt_u _ _ _ h h3
    omega
theorem gw_ch_len : ∀ (F : Nat → Nat) n v, (gw_ch F n v).length = n + 1 := by
  intro F n
  induction n with
  | zero => intro v; rfl
  | succ n ih => intro v; rw [gw_ch, List.length_cons, ih]
theorem gw_Pt_le {n v : Nat} (h : gw_Pt E bg D F n v) (hv : v < 21) : n ≤ 20 := by
  have := gf_pig 21 _ (gw_ch_nd n v h hv) (fun w hw => (gw_ch_mem n v h hv w hw).1)
  rw [gw_ch_len] at this
  omega
end GwC
def gw_CT (c _k : Nat) : Bool := Nat.beq c 87 || Nat.beq c 89
theorem gf_CW_CT : ∀ c k, gw_CT c k = true → gf_CW c k = true := by
  intro c k h
  unfold gw_CT at h
  unfold gf_CW
  simp only [Bool.or_eq_true, Bool.and_eq_true, Nat.beq_eq, Nat.ble_eq] at h ⊢
  omega
theorem gf_SR_on {S : gh_St} {x fx : Nat → Nat → Bool} {ld : Nat → Nat} (h : gf_SR S x fx ld) {b k : Nat} (v : Bool) (hb : b < 8) (hk : k < 12) : gf_SR (gh_fI S 87 (12 * b + k) (gq_B v)) (gf_u x b k v) fx ld := by
  refine ⟨fun b' k' hb' hk' => ⟨?_, ?_⟩, fun k' hk' => ?_⟩
  · rw [gh_fI_1]
    by_cases e : b' = b ∧ k' = k
    · rw [if_pos ⟨rfl, by rw [e.1, e.2]⟩, e.1, e.2, gf_u_s]
    · rw [if_neg (by omega), gf_u_n _ _ e]
      exact (h.1 b' k' hb' hk').1
  · rw [gh_fI_1, if_neg (by omega)]
    exact (h.1 b' k' hb' hk').2
  · rw [gh_fI_1, if_neg (by omega)]
    exact h.2 k' hk'
theorem gf_SR_ld {S : gh_St} {x fx : Nat → Nat → Bool} {ld : Nat → Nat} (h : gf_SR S x fx ld) {g v : Nat} : gf_SR (gh_fI S 89 g (nI v)) x fx (gh_nu ld g v) := by
  refine ⟨fun b' k' hb' hk' => ⟨?_, ?_⟩, fun k hk => ?_⟩
  · rw [gh_fI_1, if_neg (by omega)]; exact (h.1 b' k' hb' hk').1
  · rw [gh_fI_1, if_neg (by omega)]; exact (h.1 b' k' hb' hk').2
  · rw [gh_fI_1]
    by_cases e : k = g
    · subst e
      rw [if_pos ⟨rfl, rfl⟩, gh_nu_s]
    · rw [if_neg (fun w => e w.2), gh_nu_n _ _ e]; exact h.2 k hk
theorem gw_SD_fr {S S' : gh_St} {bg : Nat} {D : Nat → Int} {F : Nat → Nat} (h : gw_SD S bg D F) (hf : gh_fr gw_CT S S') : gw_SD S' bg D F := fun v hv => ⟨(hf.1 _ _ rfl).trans (h v hv).1, fun a b => (hf.1 _ _ rfl).trans ((h v hv).2 a b)⟩
/-- the plan while a way is being turned, at node n -/
def gw_GI (may fx x : Nat → Nat → Bool) (T ld' : Nat → Nat) (P : Nat → Nat → Prop) (J : (Nat → Nat → Bool) → Prop) (x' : Nat → Nat → Bool) (d n : Nat) : Prop :=
  (∀ b, b < 8 → gf_row x' b = T b + (if b = n then 1 else 0)) ∧ (∀ h, h < 12 → gf_col x' h + (if 8 + h = n then 1 else 0) = ld' h) ∧ (∀ b h, b < 8 → h < 12 → x' b h = true → may b h = true) ∧ (∀ b h, b < 8 → h < 12 → fx b h = true → x' b h = x b h) ∧ (∀ b h, b < 8 → h < 12 → (∀ m, P m b → m ≤ d) → (∀ m, P m (8 + h) → m ≤ d) → x' b h = x b h) ∧ J x'
section GwS
variable {may x fx : Nat → Nat → Bool} {ld p T ld' : Nat → Nat} {pw bg : Nat} {D : Nat → Int} {F : Nat → Nat} {J : (Nat → Nat → Bool) → Prop} {Kn : Nat → Prop} (N : Nat)
theorem gw_seg (hsat : ∀ a v c, gw_E may x fx ld p pw a v c → gw_sat D a v c) {d0 : Nat} (hJ : ∀ y b h v, b < 8 → h < 12 → Kn b → Kn (8 + h) → J y → J (gf_u y b h v)) (hK : ∀ m v, m + 1 ≤ d0 → gw_Pt (gw_E may x fx ld p pw) bg D F (m + 1) v → v ≠ 20 → F v ≠ 20 → Kn v → Kn (F v)) : ∀ (d n fu : Nat) (S : gh_St) (x' : Nat → Nat → Bool), d ≤ d0 → gw_Pt (gw_E may x fx ld p pw) bg D F d n → n < 21 → n ≠ 20 → D n < 100000000 → d < fu → gf_SR S x' fx ld' → gw_SD S bg D F → gw_GI may fx x T ld' (gw_Pt (gw_E may x fx ld p pw) bg D F) J x' d n → Kn n → bg < 21 → ∃ d' n' fu' S' x'', sX10_turns_2 N fu (nI bg) (nI n) S = sX10_turns_2 N fu' (nI bg) (nI n') S' ∧ d' ≤ d ∧ gw_Pt (gw_E may x fx ld p pw) bg D F d' n' ∧ n' < 21 ∧ n' ≠ 20 ∧ D n' = D n ∧ d' < fu' ∧ gf_SR S' x'' fx ld' ∧ gw_GI may fx x T ld' (gw_Pt (gw_E may x fx ld p pw) bg D F) J x'' d' n' ∧ (n' = bg ∨ (F n' = 20 ∧ n' ≠ bg)) ∧ gh_fr gw_CT S S' := by
  intro d
  induction d with
  | zero =>
    intro n fu S x' hd0 hP hn hn20 hDn hfu hS hSD hG hKn hbg
    exact ⟨0, n, fu, S, x', rfl, Nat.le_refl _, hP, hn, hn20, rfl, hfu, hS, hG, Or.inl hP, gh_fr_refl _ _⟩
  | succ d ih =>
    intro n fu S x' hd0 hP hn hn20 hDn hfu hS hSD hG hKn hbg
    by_cases hF20 : F n = 20
    · exact ⟨d + 1, n, fu, S, x', rfl, Nat.le_refl _, hP, hn, hn20, rfl, hfu, hS, hG, Or.inr ⟨hF20, hP.1⟩, gh_fr_refl _ _⟩
    · have hP' := hP
      obtain ⟨hnb, hF21, hDF, ⟨c, hE, hDc⟩, hPF⟩ := hP
      obtain ⟨fu, rfl⟩ : ∃ w, fu = w + 1 := ⟨fu - 1, by omega⟩
      have hKF := hK d n hd0 hP' hn20 hF20 hKn
      have hsE := hsat _ _ _ hE hDF
      obtain ⟨g1, g2, g3, g4, g5, g6⟩ := hG
      rw [sX10_turns_2, gh_n_eq (by omega) (by omega), decide_eq_false hnb, cond_false, gh_ra_n hn (by decide), gq_bs, (hSD n hn).2 hDn hnb, show gh_cmp .ge (nI (F n)) 8 = decide (8 ≤ F n) from gh_n_ge (b := 8) (by omega) (by omega), show gh_cmp .ge (nI n) 8 = decide (8 ≤ n) from gh_n_ge (b := 8) (by omega) (by omega)]
      rcases hE with ⟨b, h, hb, hh, hm, hfx, hc, hor⟩ | ⟨h, hh, hor⟩
      · have hDe : D (F n) = D n := by omega
        have hdb : ∀ m, gw_Pt (gw_E may x fx ld p pw) bg D F m n → m ≤ d + 1 := fun m hm => Nat.le_of_eq (gw_Pt_u _ _ _ hm hP')
        have hdF : ∀ m, gw_Pt (gw_E may x fx ld p pw) bg D F m (F n) → m ≤ d + 1 := fun m hm => by have := gw_Pt_u _ _ _ hm hPF; omega
        rcases hor with ⟨hx, e1, e2⟩ | ⟨hx, e1, e2⟩
        · -- from an hour to the bin n
          have hx' : x' b h = true := (g5 b h hb hh (by rw [← e2]; exact hdb) (by rw [← e1]; exact hdF)).trans hx
          rw [e1, decide_eq_true (by omega), cond_true, decide_eq_false (by omega), cond_false]
          have ei : ((12 : Int32) * nI n + nI (8 + h)) - 8 = nI (12 * b + h) := by
            rw [show (12 : Int32) = nI 12 from rfl, show (8 : Int32) = nI 8 from rfl, pk_mul, nI_add, pk_sub (by omega)]
            congr 1
            omega
          rw [ei, show vp_nar .boolean (0 : Int32) = gq_B false from gq_B_nar false, gh_wa_n (by omega) (by decide), gq_bs]
          unfold sX10_turns_102
          have f1 : gh_fr gw_CT S (gh_fI S 87 (12 * b + h) (gq_B false)) := gh_fr_fI (gh_fr_refl _ _) rfl
          have r1 := gf_row_u (x := x') (b := b) (h := h) false hh
          have c1 := gf_col_u (x := x') (b := b) (h := h) false hb
          rw [hx'] at r1 c1
          have r1' : gf_row (gf_u x' b h false) b + 1 = gf_row x' b := r1
          have c1' : gf_col (gf_u x' b h false) h + 1 = gf_col x' h := c1
          rw [e1] at hKF hPF hDF hDe hdF
          obtain ⟨d', n', fu', S', x'', a1, a2, a3, a4, a5, a6, a7, a8, a9, a10, a11⟩ := ih (8 + h) fu _ (gf_u x' b h false) (by omega) hPF (by omega) (by omega) hDF (by omega) (gf_SR_on hS false hb hh) (gw_SD_fr hSD f1) ⟨fun b' hb' => by
              have := g1 b' hb'
              by_cases eb : b' = b
              · subst eb
                rw [if_pos e2.symm] at this
                rw [if_neg (by omega)]
                omega
              · rw [if_neg (by omega)] at this
                rw [if_neg (by omega), gf_row_n _ eb]
                exact this, fun h' hh' => by
              have := g2 h' hh'
              rw [if_neg (by omega)] at this
              by_cases eh : h' = h
              · subst eh
                rw [if_pos rfl]
                omega
              · rw [if_neg (by omega), gf_col_n _ eh]
                exact this, fun b' h' hb' hh' hxx => by
              by_cases eb : b' = b ∧ h' = h
              · rw [eb.1, eb.2, gf_u_s] at hxx
                cases hxx
              · rw [gf_u_n _ _ eb] at hxx
                exact g3 b' h' hb' hh' hxx, fun b' h' hb' hh' hf => by
              by_cases eb : b' = b ∧ h' = h
              · rw [eb.1, eb.2, hfx] at hf
                cases hf
              · rw [gf_u_n _ _ eb]
                exact g4 b' h' hb' hh' hf, fun b' h' hb' hh' hd1 hd2 => by
              by_cases eb : b' = b ∧ h' = h
              · rw [eb.1, ← e2] at hd1
                have := hd1 _ hP'
                omega
              · rw [gf_u_n _ _ eb]
                exact g5 b' h' hb' hh' (fun m hm => by have := hd1 m hm; omega) (fun m hm => by have := hd2 m hm; omega), hJ _ _ _ _ hb hh (by rw [← e2]; exact hKn) hKF g6⟩ hKF hbg
          exact ⟨d', n', fu', S', x'', a1, by omega, a3, a4, a5, a6.trans hDe, a7, a8, a9, a10, gh_fr_trans f1 a11⟩
        · -- from a bin to the hour n
          have hx' : x' b h = false := (g5 b h hb hh (by rw [← e1]; exact hdF) (by rw [← e2]; exact hdb)).trans hx
          rw [e1, decide_eq_false (by omega), cond_false]
          have ei : ((12 : Int32) * nI b + nI n) - 8 = nI (12 * b + h) := by
            rw [show (12 : Int32) = nI 12 from rfl, show (8 : Int32) = nI 8 from rfl, pk_mul, nI_add, pk_sub (by omega)]
            congr 1
            omega
          rw [ei, show vp_nar .boolean (1 : Int32) = gq_B true from gq_B_nar true, gh_wa_n (by omega) (by decide), gq_bs]
          unfold sX10_turns_102
          have f1 : gh_fr gw_CT S (gh_fI S 87 (12 * b + h) (gq_B true)) := gh_fr_fI (gh_fr_refl _ _) rfl
          have r1 := gf_row_u (x := x') (b := b) (h := h) true hh
          have c1 := gf_col_u (x := x') (b := b) (h := h) true hb
          rw [hx'] at r1 c1
          have r1' : gf_row (gf_u x' b h true) b = gf_row x' b + 1 := r1
          have c1' : gf_col (gf_u x' b h true) h = gf_col x' h + 1 := c1
          rw [e1] at hKF hPF hDF hDe hdF
          obtain ⟨d', n', fu', S', x'', a1, a2, a3, a4, a5, a6, a7, a8, a9, a10, a11⟩ := ih b fu _ (gf_u x' b h true) (by omega) hPF (by omega) (by omega) hDF (by omega) (gf_SR_on hS true hb hh) (gw_SD_fr hSD f1) ⟨fun b' hb' => by
              have := g1 b' hb'
              rw [if_neg (by omega)] at this
              by_cases eb : b' = b
              · subst eb
                rw [if_pos rfl]
                omega
              · rw [if_neg eb, gf_row_n _ eb]
                exact this, fun h' hh' => by
              have := g2 h' hh'
              by_cases eh : h' = h
              · subst eh
                rw [if_pos e2.symm] at this
                rw [if_neg (by omega)]
                omega
              · rw [if_neg (by omega)] at this
                rw [if_neg (by omega), gf_col_n _ eh]
                exact this, fun b' h' hb' hh' hxx => by
              by_cases eb : b' = b ∧ h' = h
              · rw [eb.1, eb.2]
                exact hm
              · rw [gf_u_n _ _ eb] at hxx
                exact g3 b' h' hb' hh' hxx, fun b' h' hb' hh' hf => by
              by_cases eb : b' = b ∧ h' = h
              · rw [eb.1, eb.2, hfx] at hf
                cases hf
              · rw [gf_u_n _ _ eb]
                exact g4 b' h' hb' hh' hf, fun b' h' hb' hh' hd1 hd2 => by
              by_cases eb : b' = b ∧ h' = h
              · rw [eb.2, ← e2] at hd2
                have := hd2 _ hP'
                omega
              · rw [gf_u_n _ _ eb]
                exact g5 b' h' hb' hh' (fun m hm => by have := hd1 m hm; omega) (fun m hm => by have := hd2 m hm; omega), hJ _ _ _ _ hb hh hKF (by rw [← e2]; exact hKn) g6⟩ hKF hbg
          exact ⟨d', n', fu', S', x'', a1, by omega, a3, a4, a5, a6.trans hDe, a7, a8, a9, a10, gh_fr_trans f1 a11⟩
      · rcases hor with ⟨-, -, e2, -⟩ | ⟨-, e1, -⟩
        · exact absurd e2 hn20
        · exact absurd e1 hF20
/-- before the end lies no cost -/
theorem gw_zero (hsat : ∀ a v c, gw_E may x fx ld p pw a v c → gw_sat D a v c) (hD0 : D bg = 0) : ∀ m v, gw_Pt (gw_E may x fx ld p pw) bg D F m v → (∀ k, gw_Pt (gw_E may x fx ld p pw) bg D F k 20 → m < k) → D v = 0 := by
  intro m
  induction m with
  | zero => intro v h _; rw [show v = bg from h]; exact hD0
  | succ m ih =>
    intro v h hlt
    have h' := h
    obtain ⟨-, -, hDF, ⟨c, hE, hc⟩, hPF⟩ := h
    have h1 := ih (F v) hPF (fun k hk => by have := hlt k hk; omega)
    have h2 := hsat _ _ _ hE hDF
    rcases hE with ⟨b, k, -, -, -, -, e, -⟩ | ⟨k, -, ⟨-, -, e, -⟩ | ⟨-, e, -⟩⟩
    · omega
    · have := hlt (m + 1) (by rw [← e]; exact h')
      omega
    · have := hlt m (by rw [← e]; exact hPF)
      omega
end GwS
