/-! ===== FANS: one hour more and exchanges, in the reference ===== -/
/-- the reference's own rows -/
def gw_CR (c _k : Nat) : Bool := Nat.ble 87 c && Nat.ble c 91
theorem gf_CW_CR : ∀ c k, gw_CR c k = true → gf_CW c k = true := by
  intro c k h
  unfold gw_CR at h
  unfold gf_CW
  simp only [Bool.or_eq_true, Bool.and_eq_true, Nat.beq_eq, Nat.ble_eq] at h ⊢
  omega
theorem gw_CR_CD : ∀ c k, gw_CD c k = true → gw_CR c k = true := by
  intro c k h
  unfold gw_CD at h
  unfold gw_CR
  simp only [Bool.or_eq_true, Bool.and_eq_true, Nat.beq_eq, Nat.ble_eq] at h ⊢
  omega
theorem gw_CR_CT : ∀ c k, gw_CT c k = true → gw_CR c k = true := by
  intro c k h
  unfold gw_CT at h
  unfold gw_CR
  simp only [Bool.or_eq_true, Bool.and_eq_true, Nat.beq_eq, Nat.ble_eq] at h ⊢
  omega
theorem gw_RS_fr {S S' : gh_St} {dr : Nat → Bool} {p nd li : Nat → Nat} {pw : Nat} (h : gf_RS S dr p nd li pw) (hf : gh_fr gw_CR S S') : gf_RS S' dr p nd li pw := gf_RS_fr h (gh_fr_mono hf gf_CW_CR)
def gw_pi (Mb Mh : Nat → Nat) (v : Nat) : Int := if v < 8 then -(Mb v : Int) else if v = 20 then 0 else -(Mh (v - 8) : Int)
def gw_M9 (Mb Mh : Nat → Nat) : Prop := (∀ b, b < 8 → Mb b ≤ 99) ∧ ∀ h, h < 12 → Mh h ≤ 99
def gw_fk (k b h : Nat) : Bool := decide (12 * b + h < k)
section GwR
variable {dr : Nat → Bool} {p nd li : Nat → Nat} {pw : Nat} {x fx : Nat → Nat → Bool} {ld Mb Mh : Nat → Nat} (N : Nat)
theorem gw_pi_b {b : Nat} (hb : b < 8) : gw_pi Mb Mh b = -(Mb b : Int) := if_pos hb
theorem gw_pi_h {h : Nat} (hh : h < 12) : gw_pi Mb Mh (8 + h) = -(Mh h : Int) := by
  unfold gw_pi
  rw [if_neg (by omega), if_neg (by omega), Nat.add_sub_cancel_left]
theorem gw_pi_20 : gw_pi Mb Mh 20 = 0 := rfl
theorem gw_pot_of {may : Nat → Nat → Bool} (hc : gf_cert may pw p x ld Mb Mh) (hM : gw_M9 Mb Mh) (hp : ∀ h, h < 12 → p h ≤ 99) : gw_pot (gw_E may x fx ld p pw) (gw_pi Mb Mh) := by
  obtain ⟨c1, c2, c3, c4⟩ := hc
  refine ⟨fun v hv => ?_, fun a v c hE => ?_⟩
  · by_cases e1 : v < 8
    · rw [gw_pi_b e1]
      have := hM.1 v e1
      omega
    · by_cases e2 : v = 20
      · rw [e2, gw_pi_20]
        omega
      · obtain ⟨h, rfl⟩ : ∃ h, v = 8 + h := ⟨v - 8, by omega⟩
        rw [gw_pi_h (by omega)]
        have := hM.2 h (by omega)
        omega
  · rcases hE with ⟨b, h, hb, hh, hm, -, hc, ⟨hx, e1, e2⟩ | ⟨hx, e1, e2⟩⟩ | ⟨h, hh, ⟨hl, e1, e2, hc⟩ | ⟨hl, e1, e2, hc⟩⟩
    · rw [e1, e2, gw_pi_b hb, gw_pi_h hh]
      have := c1 b h hb hh hx
      exact ⟨by omega, by omega, by omega, by omega, by omega, by omega⟩
    · rw [e1, e2, gw_pi_b hb, gw_pi_h hh]
      have := c2 b h hb hh hm hx
      exact ⟨by omega, by omega, by omega, by omega, by omega, by omega⟩
    · rw [e1, e2, gw_pi_20, gw_pi_h hh]
      have := c3 h hh hl
      have := hp h hh
      exact ⟨by omega, by omega, by omega, by omega, by omega, by omega⟩
    · rw [e1, e2, gw_pi_20, gw_pi_h hh]
      have := c4 h hh hl
      have := hp h hh
      exact ⟨by omega, by omega, by omega, by omega, by omega, by omega⟩
theorem gf_cost_nu {t : Nat} (ht : t < 12) : gf_cost p (gh_nu ld t (ld t + 1)) = gf_cost p ld + p t := by
  unfold gf_cost
  have e : (fun h => gh_nu ld t (ld t + 1) h * p h) = gh_nu (fun h => ld h * p h) t ((ld t + 1) * p t) := by
    funext h
    unfold gh_nu
    by_cases q : h = t
    · rw [if_pos q, if_pos q, q]
    · rw [if_neg q, if_neg q]
  have := gh_sm_nu (fun h => ld h * p h) t ((ld t + 1) * p t) 12 ht
  rw [e]
  have e2 : (ld t + 1) * p t = ld t * p t + p t := by rw [Nat.add_mul, Nat.one_mul]
  omega
theorem gw_add (hN : 3000000000 ≤ N) {S : gh_St} {T : Nat → Nat} {bn : Nat} (hbn : bn < 8) (hR : gf_RS S dr p nd li pw) (hS : gf_SR S x (fun _ _ => false) ld) (hx : gf_feas (gf_may dr li) T pw x) (hcol : ∀ g, g < 12 → gf_col x g = ld g) (hc : gf_cert (gf_may dr li) pw p x ld Mb Mh) (hM : gw_M9 Mb Mh) : ∃ S1, sX10_walks N (nI bn) S = some S1 ∧ gh_fr gw_CR S S1 ∧ ((S1.1 90 20 = nI 100000000 ∧ ∀ Nd : Nat → Nat, (∀ b, b < 8 → T b ≤ Nd b) → T bn < Nd bn → ∀ y, ¬ gf_feas (gf_may dr li) Nd pw y) ∨ (∃ t S2 x' Mb' Mh', t < 12 ∧ S1.1 90 20 = nI (p t) ∧ sX10_turns N (nI bn) 20 S1 = some S2 ∧ gh_fr gw_CR S S2 ∧ gf_SR S2 x' (fun _ _ => false) (gh_nu ld t (ld t + 1)) ∧ gf_feas (gf_may dr li) (gh_nu T bn (T bn + 1)) pw x' ∧ (∀ g, g < 12 → gf_col x' g = gh_nu ld t (ld t + 1) g) ∧ gf_cert (gf_may dr li) pw p x' (gh_nu ld t (ld t + 1)) Mb' Mh' ∧ gw_M9 Mb' Mh')) := by
  have hp99 : ∀ h, h < 12 → p h ≤ 99 := fun h hh => (hR.2.2.2.2.1 h hh).2.2.2.2
  have hpw8 := hR.2.1
  have hld8 : ∀ h, h < 12 → ld h ≤ 8 := fun h hh => by
    have h1 := hx.2.1 h hh
    have h2 := hcol h hh
    omega
  have hpot := gw_pot_of (fx := fun _ _ => false) hc hM hp99
  obtain ⟨S1, D, F, a1, a2, a3, a4, a5⟩ := gw_walks (dr := dr) (p := p) (nd := nd) (li := li) (pw := pw) (x := x) (fx := fun _ _ => false) (ld := ld) (bg := bn) N hN hpot (by omega) hld8 hR hS
  have f1 : gh_fr gw_CR S S1 := gh_fr_mono a5 gw_CR_CD
  have hD0 := a2.1
  have hsE1 : ∀ b h, b < 8 → h < 12 → gf_may dr li b h = true → x b h = true → D (8 + h) < 100000000 → D b ≤ D (8 + h) := fun b h hb hh hm hxx hl => by
    have := a4 (8 + h) b 0 (Or.inl ⟨b, h, hb, hh, hm, rfl, rfl, Or.inl ⟨hxx, rfl, rfl⟩⟩) hl
    omega
  have hsE2 : ∀ b h, b < 8 → h < 12 → gf_may dr li b h = true → x b h = false → D b < 100000000 → D (8 + h) ≤ D b := fun b h hb hh hm hxx hl => by
    have := a4 b (8 + h) 0 (Or.inl ⟨b, h, hb, hh, hm, rfl, rfl, Or.inr ⟨hxx, rfl, rfl⟩⟩) hl
    omega
  have hsE3 : ∀ h, h < 12 → ld h < pw → D (8 + h) < 100000000 → D 20 ≤ D (8 + h) + p h := fun h hh hl hd => a4 (8 + h) 20 (p h) (Or.inr ⟨h, hh, Or.inl ⟨hl, rfl, rfl, rfl⟩⟩) hd
  have hb0 : ∀ h, h < 12 → gf_may dr li bn h = true → x bn h = false → decide (D (8 + h) ≤ 0) = true := fun h hh hm hxf => decide_eq_true (by have := hsE2 bn h hbn hh hm hxf (by omega); omega)
  have hcl : ∀ b h h', b < 8 → h < 12 → h' < 12 → decide (D (8 + h) ≤ 0) = true → x b h = true → gf_may dr li b h' = true → x b h' = false → decide (D (8 + h') ≤ 0) = true := fun b h h' hb hh hh' hq hxx hm hxf => by
    have hq := decide_eq_true_iff.mp hq
    have q1 := hsE1 b h hb hh (hx.2.2 b h hb hh hxx) hxx (by omega)
    have q2 := hsE2 b h' hb hh' hm hxf (by omega)
    exact decide_eq_true (by omega)
  have h20 := (gw_D_lo hpot (by omega) a2 (show 20 < 21 by omega))
  refine ⟨S1, a1, f1, ?_⟩
  by_cases hfar : D 20 < 100000000
  case neg =>
    refine Or.inl ⟨?_, fun Nd hT hlt y hy => ?_⟩
    · rw [(a3 20 (by omega)).1, show D 20 = ((100000000 : Nat) : Int) by omega, gq_Z_n]
    · refine gf_hall (Q := fun h => decide (D (8 + h) ≤ 0)) hx hT hbn hlt hb0 hcl (fun h hh hq hl => ?_) hy
      have hq := decide_eq_true_iff.mp hq
      rw [hcol h hh] at hl
      have := hsE3 h hh hl (by omega)
      have := hp99 h hh
      omega
  refine Or.inr ?_
  obtain ⟨n20, hP20⟩ := ((a2.2 20 (by omega)).2 hfar).2
  cases n20 with
  | zero => exact absurd (show 20 = bn from hP20) (by omega)
  | succ m =>
  have hP20' := hP20
  obtain ⟨hnb, hF21, hDF, ⟨c, hE, hDc⟩, hPF⟩ := hP20
  have hsc := a4 _ _ _ hE hDF
  obtain ⟨t, ht, htl, hFt, hct⟩ : ∃ t, t < 12 ∧ ld t < pw ∧ F 20 = 8 + t ∧ c = p t := by
    rcases hE with ⟨b, h, hb, hh, -, -, -, ⟨-, -, e⟩ | ⟨-, -, e⟩⟩ | ⟨h, hh, ⟨hl, e1, e2, hc⟩ | ⟨hl, e1, e2, hc⟩⟩
    · omega
    · omega
    · exact ⟨h, hh, hl, e1, hc⟩
    · omega
  rw [hFt] at hPF hDF hDc hsc
  have hlow : ∀ k, gw_Pt (gw_E (gf_may dr li) x (fun _ _ => false) ld p pw) bn D F k 20 → m + 1 = k := fun k hk => gw_Pt_u _ _ _ hP20' hk
  have hDt : D (8 + t) = 0 := gw_zero a4 hD0 m (8 + t) hPF (fun k hk => by have := hlow k hk; omega)
  have hz20 : D 20 = p t := by omega
  obtain ⟨u1, u2, u3, u4⟩ := gf_aug (bn := bn) (Q := fun h => decide (D (8 + h) ≤ 0)) hc hb0 hcl ht (decide_eq_true (by omega)) htl (fun h hh hq hl => by
    have hq := decide_eq_true_iff.mp hq
    have := hsE3 h hh hl (by omega)
    omega)
  have hm20 := gw_Pt_le hP20' (by omega)
  have pt99 := hp99 t ht
  have f0 : gh_fr gw_CT S1 (gh_fI S1 89 t (nI (ld t + 1))) := gh_fr_fI (gh_fr_refl _ _) rfl
  obtain ⟨N', hN'⟩ : ∃ q, N = q + 1 := ⟨N - 1, by omega⟩
  have hS1 := gf_SR_fr hS a5
  have estep : sX10_turns N (nI bn) 20 S1 = sX10_turns_2 N N' (nI bn) (nI (8 + t)) (gh_fI S1 89 t (nI (ld t + 1))) := by
    show sX10_turns_2 N N (nI bn) (nI 20) S1 = _
    rw [show sX10_turns_2 N N (nI bn) (nI 20) S1 = sX10_turns_2 N (N' + 1) (nI bn) (nI 20) S1 by rw [← hN'], sX10_turns_2, gh_n_eq (by omega) (by omega), decide_eq_false (by omega), cond_false, gh_ra_n (by omega) (by decide), gq_bs, (a3 20 (by omega)).2 hfar (by omega), hFt, show gh_cmp .ge (nI (8 + t)) 8 = decide (8 ≤ 8 + t) from gh_n_ge (b := 8) (by omega) (by omega), decide_eq_true (by omega), cond_true, show gh_cmp .ge (nI 20) 8 = true from rfl, cond_true, show gh_cmp .ne (nI 20) 20 = false from rfl, cond_false, show nI (8 + t) - 8 = nI t from by rw [show (8 : Int32) = nI 8 from rfl, pk_sub (by omega), Nat.add_sub_cancel_left], gh_ra_n ht (by decide), gq_bs, hS1.2 t ht, nI_1, gh_wa_n ht (by decide), gq_bs]
    rfl
  obtain ⟨d', n', fu', S2, x'', b1, b2, b3, b4, b5, b6, b7, b8, b9, b10, b11⟩ := gw_seg (may := gf_may dr li) (x := x) (fx := fun _ _ => false) (ld := ld) (p := p) (T := T) (ld' := gh_nu ld t (ld t + 1)) (pw := pw) (bg := bn) (D := D) (F := F) (J := fun y => gf_cert (gf_may dr li) pw p y (gh_nu ld t (ld t + 1)) (gf_Mb' x (fun h => decide (D (8 + h) ≤ 0)) bn Mb (p t)) (gf_Mh' (fun h => decide (D (8 + h) ≤ 0)) Mh (p t))) (Kn := fun v => if v < 8 then gf_Mb' x (fun h => decide (D (8 + h) ≤ 0)) bn Mb (p t) v = p t else gf_Mh' (fun h => decide (D (8 + h) ≤ 0)) Mh (p t) (v - 8) = p t) N a4 (d0 := m) (fun y b h v hb hh k1 k2 hj => by
    rw [if_pos hb] at k1
    rw [if_neg (by omega), Nat.add_sub_cancel_left] at k2
    exact gf_cert_flip hj v (k1.trans k2.symm)) (fun k v hk hP hv20 hF20 hKv => by
    have hP' := hP
    obtain ⟨hvb, hFv21, hDFv, ⟨c, hEv, -⟩, hPFv⟩ := hP
    have hDv : D v = 0 := gw_zero a4 hD0 (k + 1) v hP' (fun k' hk' => by have := hlow k' hk'; omega)
    have hDFv0 : D (F v) = 0 := gw_zero a4 hD0 k (F v) hPFv (fun k' hk' => by have := hlow k' hk'; omega)
    rcases hEv with ⟨b, h, hb, hh, hm, -, -, ⟨hxx, e1, e2⟩ | ⟨hxx, e1, e2⟩⟩ | ⟨h, hh, ⟨-, -, e2, -⟩ | ⟨-, e1, -⟩⟩
    · rw [e2, if_pos hb] at hKv
      rw [e1] at hDFv0 ⊢
      rw [if_neg (by omega), Nat.add_sub_cancel_left]
      exact u4 b h hb hh (decide_eq_true (by omega)) hxx hKv
    · rw [e2, if_neg (by omega), Nat.add_sub_cancel_left] at hKv
      rw [e2] at hDv
      rw [e1] at hPFv ⊢
      rw [if_pos hb]
      refine u3 b h hb hh ?_ (decide_eq_true (by omega)) hm hxx hKv
      by_cases ebn : b = bn
      · exact Or.inl ebn
      · cases k with
        | zero => exact absurd (show b = bn from hPFv) ebn
        | succ k =>
          have hPb := hPFv
          obtain ⟨-, -, hDF2, ⟨c2, hE2, -⟩, hP2⟩ := hPFv
          have hD2 : D (F b) = 0 := gw_zero a4 hD0 k (F b) hP2 (fun k' hk' => by have := hlow k' hk'; omega)
          rcases hE2 with ⟨b3, h3, hb3, hh3, -, -, -, ⟨hx3, e3, e4⟩ | ⟨hx3, e3, e4⟩⟩ | ⟨h3, hh3, ⟨-, -, e4, -⟩ | ⟨-, e3, e4, -⟩⟩
          · rw [e3] at hD2
            exact Or.inr ⟨h3, hh3, decide_eq_true (by omega), by rw [e4]; exact hx3⟩
          · omega
          · omega
          · omega
    · exact absurd e2 hv20
    · exact absurd e1 hF20) m (8 + t) N' (gh_fI S1 89 t (nI (ld t + 1))) x (Nat.le_refl _) hPF (by omega) (by omega) hDF (by omega) (gf_SR_ld hS1) (gw_SD_fr a3 f0) ⟨fun b hb => by rw [if_neg (by omega)]; exact hx.1 b hb, fun h hh => by
      have := hcol h hh
      by_cases e : h = t
      · subst e
        rw [if_pos rfl, gh_nu_s]
        omega
      · rw [if_neg (by omega), gh_nu_n _ _ e]
        exact this, hx.2.2, fun _ _ _ _ _ => rfl, fun _ _ _ _ _ _ => rfl, u1⟩ (by rw [if_neg (by omega), Nat.add_sub_cancel_left]; exact u2) (by omega)
  have hend : n' = bn := by
    rcases b10 with q | ⟨q1, q2⟩
    · exact q
    · cases d' with
      | zero => exact absurd (show n' = bn from b3) q2
      | succ d' =>
        have h1 := b3.2.2.2.2
        rw [q1] at h1
        have := hlow d' h1
        omega
  subst hend
  obtain ⟨g1, g2, g3, g4, g5, g6⟩ := b9
  obtain ⟨fu'', rfl⟩ : ∃ q, fu' = q + 1 := ⟨fu' - 1, by omega⟩
  refine ⟨t, S2, x'', _, _, ht, ?_, ?_, ?_, b8, ⟨fun b hb => ?_, fun h hh => ?_, g3⟩, fun h hh => ?_, g6, ⟨fun b hb => ?_, fun h hh => ?_⟩⟩
  · rw [(a3 20 (by omega)).1, hz20, gq_Z_n]
  · rw [estep, b1, sX10_turns_2, gh_n_eq (by omega) (by omega), decide_eq_true rfl]
    rfl
  · exact gh_fr_trans f1 (gh_fr_mono (gh_fr_trans f0 b11) gw_CR_CT)
  · have := g1 b hb
    by_cases e : b = n'
    · subst e
      rw [if_pos rfl] at this
      rw [gh_nu_s]
      exact this
    · rw [if_neg e] at this
      rw [gh_nu_n _ _ e]
      exact this
  · have := g2 h hh
    rw [if_neg (by omega)] at this
    have h1 := hx.2.1 h hh
    have h2 := hcol h hh
    by_cases e : h = t
    · subst e
      rw [gh_nu_s] at this
      omega
    · rw [gh_nu_n _ _ e] at this
      omega
  · have := g2 h hh
    rw [if_neg (by omega)] at this
    exact this
  · have h1 := hM.1 b hb
    by_cases e : gf_inB x (fun h => decide (D (8 + h) ≤ 0)) n' b
    · rw [gf_Mb_in e]
      omega
    · rw [gf_Mb_out e]
      exact h1
  · have h1 := hM.2 h hh
    unfold gf_Mh'
    split <;> omega
/-- an exchange, or none -/
theorem gw_ex (hN : 3000000000 ≤ N) {S : gh_St} {b h : Nat} (hb : b < 8) (hh : h < 12) (hR : gf_RS S dr p nd li pw) (hS : gf_SR S x (gw_fk (12 * b + h + 1)) ld) (hx : gf_feas (gf_may dr li) nd pw x) (hcol : ∀ g, g < 12 → gf_col x g = ld g) (hc : gf_cert (gf_may dr li) pw p x ld Mb Mh) (hM : gw_M9 Mb Mh) (hmb : gf_may dr li b h = true) (hxb : x b h = false) (hnd : 0 < nd b) : ∃ S1, sX10_walks N (nI (8 + h)) S = some S1 ∧ gh_fr gw_CR S S1 ∧ ((gh_cmp .ne (S1.1 90 b) 0 = true ∧ gf_SR S1 x (gw_fk (12 * b + h + 1)) ld ∧ ∀ z, gf_feas (gf_may dr li) nd pw z → gf_plq p (gf_col x) (gf_col z) → (∀ b' h', b' < 8 → h' < 12 → 12 * b' + h' < 12 * b + h → x b' h' = z b' h') → z b h = false) ∨ (gh_cmp .ne (S1.1 90 b) 0 = false ∧ ∃ S2 x' ld', sX10_turns N (nI (8 + h)) (nI b) S1 = some S2 ∧ gh_fr gw_CR S S2 ∧ gf_SR (gh_fI S2 87 (12 * b + h) (gq_B true)) x' (gw_fk (12 * b + h + 1)) ld' ∧ gf_feas (gf_may dr li) nd pw x' ∧ (∀ g, g < 12 → gf_col x' g = ld' g) ∧ gf_plq p ld' ld ∧ x' b h = true ∧ ∀ b' h', b' < 8 → h' < 12 → 12 * b' + h' < 12 * b + h → x' b' h' = x b' h')) := by
  have hp99 : ∀ h, h < 12 → p h ≤ 99 := fun h hh => (hR.2.2.2.2.1 h hh).2.2.2.2
  have hpw8 := hR.2.1
  have hld8 : ∀ h, h < 12 → ld h ≤ 8 := fun h hh => by
    have h1 := hx.2.1 h hh
    have h2 := hcol h hh
    omega
  have hpot := gw_pot_of (fx := gw_fk (12 * b + h + 1)) hc hM hp99
  obtain ⟨S1, D, F, a1, a2, a3, a4, a5⟩ := gw_walks (dr := dr) (p := p) (nd := nd) (li := li) (pw := pw) (x := x) (fx := gw_fk (12 * b + h + 1)) (ld := ld) (bg := 8 + h) N hN hpot (by omega) hld8 hR hS
  have f1 : gh_fr gw_CR S S1 := gh_fr_mono a5 gw_CR_CD
  have hS1 := gf_SR_fr hS a5
  have hD0 := a2.1
  have fkf : ∀ b' h', ¬ 12 * b' + h' < 12 * b + h + 1 → gw_fk (12 * b + h + 1) b' h' = false := fun b' h' hn => decide_eq_false hn
  have hDb := gw_D_lo hpot (by omega) a2 (show b < 21 by omega)
  have hDbnn : 0 ≤ D b := by
    by_cases e : D b < 100000000
    · have := ((a2.2 b (by omega)).2 e).1
      rw [gw_pi_b hb, gw_pi_h hh] at this
      have := hc.2.1 b h hb hh hmb hxb
      omega
    · omega
  have hcmp : gh_cmp .ne (S1.1 90 b) 0 = decide (D b ≠ 0) := by
    rw [(a3 b (by omega)).1, show (0 : Int32) = gq_Z 0 from rfl, gq_Z_ne (by omega) (by omega) (by omega) (by omega)]
  refine ⟨S1, a1, f1, ?_⟩
  by_cases hz : D b = 0
  case neg =>
    refine Or.inl ⟨by rw [hcmp]; exact decide_eq_true hz, hS1, fun z hzf hpl hag => gf_bf (fun hzt => ?_)⟩
    refine gf_comp (may := gf_may dr li) (op := fun b' h' => gf_may dr li b' h' && !decide (12 * b' + h' < 12 * b + h)) (T := nd) (pw := pw) (p := p) (y := x) (z := z) (Q := fun g => decide (D (8 + g) ≤ 0)) (bn := b) (ho := h) (fun g hg => by have := hp99 g hg; omega) hx hzf hpl (fun b' h' hb' hh' ho => ?_) hb hh hzt hxb (decide_eq_true (by omega)) (fun g hg hq w => ?_) (fun b' g g' hb' hbb hg hg' hq h1 h2 h3 h4 => ?_) (fun g g' hg hg' hq h1 h2 h3 => ?_)
    · by_cases e : 12 * b' + h' < 12 * b + h
      · exact hag b' h' hb' hh' e
      · have hm : gf_may dr li b' h' = false := by
          rw [decide_eq_false e, Bool.not_false, Bool.and_true] at ho
          exact ho
        have e1 : x b' h' = false := gf_bf (fun w => by
          have := hx.2.2 b' h' hb' hh' w
          rw [hm] at this
          cases this)
        have e2 : z b' h' = false := gf_bf (fun w => by
          have := hzf.2.2 b' h' hb' hh' w
          rw [hm] at this
          cases this)
        rw [e1, e2]
    · obtain ⟨w1, w2⟩ := w
      rw [Bool.and_eq_true, Bool.not_eq_true', decide_eq_false_iff_not] at w2
      have hgh : g ≠ h := fun q => by rw [q, hxb] at w1; cases w1
      have hq := decide_eq_true_iff.mp hq
      have := a4 (8 + g) b 0 (Or.inl ⟨b, g, hb, hg, w2.1, fkf b g (by omega), rfl, Or.inl ⟨w1, rfl, rfl⟩⟩) (by omega)
      omega
    · rw [Bool.and_eq_true, Bool.not_eq_true', decide_eq_false_iff_not] at h2 h3
      have hq := decide_eq_true_iff.mp hq
      have q1 := a4 (8 + g) b' 0 (Or.inl ⟨b', g, hb', hg, h2.1, fkf b' g (by omega), rfl, Or.inl ⟨h1, rfl, rfl⟩⟩) (by omega)
      have q2 := a4 b' (8 + g') 0 (Or.inl ⟨b', g', hb', hg', h3.1, fkf b' g' (by omega), rfl, Or.inr ⟨h4, rfl, rfl⟩⟩) (by omega)
      exact decide_eq_true (by omega)
    · have hq := decide_eq_true_iff.mp hq
      rw [hcol g hg] at h1
      rw [hcol g' hg'] at h2
      have pg := hp99 g hg
      have q1 := a4 (8 + g) 20 (p g) (Or.inr ⟨g, hg, Or.inl ⟨h1, rfl, rfl, rfl⟩⟩) (by omega)
      have q2 := a4 20 (8 + g') (-(p g' : Int)) (Or.inr ⟨g', hg', Or.inr ⟨h2, rfl, rfl, rfl⟩⟩) (by omega)
      exact decide_eq_true (by omega)
  refine Or.inr ⟨by rw [hcmp]; exact decide_eq_false (not_not_intro hz), ?_⟩
  obtain ⟨nb, hPb⟩ := ((a2.2 b (by omega)).2 (by omega)).2
  have hnb20 := gw_Pt_le hPb (by omega)
  have hTb : ∀ b', b' < 8 → gf_row x b' = (fun b' => if b' = b then nd b - 1 else nd b') b' + (if b' = b then 1 else 0) := fun b' hb' => by
    have := hx.1 b' hb'
    show _ = (if b' = b then nd b - 1 else nd b') + _
    by_cases e : b' = b
    · subst e
      rw [if_pos rfl, if_pos rfl]
      omega
    · rw [if_neg e, if_neg e]
      exact this
  have fin : ∀ (S2 : gh_St) (x'' : Nat → Nat → Bool) (ld'' : Nat → Nat) (d' fu' : Nat), gf_SR S2 x'' (gw_fk (12 * b + h + 1)) ld'' → gw_GI (gf_may dr li) (gw_fk (12 * b + h + 1)) x (fun b' => if b' = b then nd b - 1 else nd b') ld'' (gw_Pt (gw_E (gf_may dr li) x (gw_fk (12 * b + h + 1)) ld p pw) (8 + h) D F) (fun _ => True) x'' d' (8 + h) → (∀ g, g < 12 → ld'' g ≤ pw) → gf_plq p ld'' ld → ∃ x' ld', gf_SR (gh_fI S2 87 (12 * b + h) (gq_B true)) x' (gw_fk (12 * b + h + 1)) ld' ∧ gf_feas (gf_may dr li) nd pw x' ∧ (∀ g, g < 12 → gf_col x' g = ld' g) ∧ gf_plq p ld' ld ∧ x' b h = true ∧ ∀ b' h', b' < 8 → h' < 12 → 12 * b' + h' < 12 * b + h → x' b' h' = x b' h' := by
    intro S2 x'' ld'' d' fu' hSR hG hle hpl
    obtain ⟨g1, g2, g3, g4, g5, -⟩ := hG
    have hxb' : x'' b h = false := (g4 b h hb hh (decide_eq_true (by omega))).trans hxb
    have r1 := gf_row_u (x := x'') (b := b) (h := h) true hh
    have c1 := gf_col_u (x := x'') (b := b) (h := h) true hb
    rw [hxb'] at r1 c1
    have r1' : gf_row (gf_u x'' b h true) b = gf_row x'' b + 1 := r1
    have c1' : gf_col (gf_u x'' b h true) h = gf_col x'' h + 1 := c1
    have colall : ∀ g, g < 12 → gf_col (gf_u x'' b h true) g = ld'' g := fun g hg => by
      have := g2 g hg
      by_cases e : g = h
      · subst e
        rw [if_pos rfl] at this
        omega
      · rw [if_neg (by omega)] at this
        rw [gf_col_n _ e]
        exact this
    refine ⟨gf_u x'' b h true, ld'', gf_SR_on hSR true hb hh, ⟨fun b' hb' => ?_, fun g hg => ?_, fun b' h' hb' hh' hxx => ?_⟩, colall, hpl, gf_u_s _ _ _ _, fun b' h' hb' hh' hl => ?_⟩
    · have := g1 b' hb'
      rw [if_neg (show ¬ b' = 8 + h by omega)] at this
      have this : gf_row x'' b' = (if b' = b then nd b - 1 else nd b') + 0 := this
      by_cases e : b' = b
      · subst e
        rw [if_pos rfl] at this
        omega
      · rw [if_neg e] at this
        rw [gf_row_n _ e]
        exact this
    · rw [colall g hg]
      exact hle g hg
    · by_cases e : b' = b ∧ h' = h
      · rw [e.1, e.2]
        exact hmb
      · rw [gf_u_n _ _ e] at hxx
        exact g3 b' h' hb' hh' hxx
    · rw [gf_u_n _ _ (by omega)]
      exact g4 b' h' hb' hh' (decide_eq_true (by omega))
  have hle0 : ∀ g, g < 12 → ld g ≤ pw := fun g hg => by
    have h1 := hx.2.1 g hg
    have h2 := hcol g hg
    omega
  obtain ⟨d1, n1, fu1, S2, x2, b1, b2, b3, b4, b5, b6, b7, b8, b9, b10, b11⟩ := gw_seg (may := gf_may dr li) (x := x) (fx := gw_fk (12 * b + h + 1)) (ld := ld) (p := p) (T := fun b' => if b' = b then nd b - 1 else nd b') (ld' := ld) (pw := pw) (bg := 8 + h) (D := D) (F := F) (J := fun _ => True) (Kn := fun _ => True) N a4 (d0 := nb) (fun _ _ _ _ _ _ _ _ _ => trivial) (fun _ _ _ _ _ _ _ => trivial) nb b N S1 x (Nat.le_refl _) hPb (by omega) (by omega) (by omega) (by omega) hS1 a3 ⟨hTb, fun g hg => by rw [if_neg (by omega)]; exact hcol g hg, hx.2.2, fun _ _ _ _ _ => rfl, fun _ _ _ _ _ _ => rfl, trivial⟩ trivial (by omega)
  have b1' : sX10_turns N (nI (8 + h)) (nI b) S1 = sX10_turns_2 N fu1 (nI (8 + h)) (nI n1) S2 := b1
  by_cases hdone : n1 = 8 + h
  · subst hdone
    obtain ⟨fu', rfl⟩ : ∃ q, fu1 = q + 1 := ⟨fu1 - 1, by omega⟩
    obtain ⟨x', ld', k1, k2⟩ := fin S2 x2 ld d1 0 b8 b9 hle0 (fun _ => rfl)
    refine ⟨S2, x', ld', ?_, gh_fr_trans f1 (gh_fr_mono b11 gw_CR_CT), k1, k2⟩
    rw [b1', sX10_turns_2, gh_n_eq (by omega) (by omega), decide_eq_true rfl]
    rfl
  · obtain ⟨hF20, -⟩ := b10.resolve_left hdone
    cases d1 with
    | zero => exact absurd (show n1 = 8 + h from b3) hdone
    | succ d1 =>
    have b3' := b3
    obtain ⟨-, -, hDF, ⟨c, hE, hDc⟩, hPF⟩ := b3
    have hsc := a4 _ _ _ hE hDF
    rw [hF20] at hPF hDF hDc hsc
    obtain ⟨h2, hh2, hl2, hn1, hc2⟩ : ∃ h2, h2 < 12 ∧ 0 < ld h2 ∧ n1 = 8 + h2 ∧ c = -(p h2 : Int) := by
      rw [hF20] at hE
      rcases hE with ⟨b', h', hb', hh', -, -, -, ⟨-, e, -⟩ | ⟨-, e, -⟩⟩ | ⟨h', hh', ⟨hl, e1, e2, hc⟩ | ⟨hl, e1, e2, hc⟩⟩
      · omega
      · omega
      · omega
      · exact ⟨h', hh', hl, e2, hc⟩
    cases d1 with
    | zero => exact absurd (show 20 = 8 + h from hPF) (by omega)
    | succ d1 =>
    have hP20 := hPF
    obtain ⟨-, -, hDF2, ⟨c2, hE2, hDc2⟩, hPF2⟩ := hPF
    have hsc2 := a4 _ _ _ hE2 hDF2
    obtain ⟨h1, hh1, hl1, hF1, hc1⟩ : ∃ h1, h1 < 12 ∧ ld h1 < pw ∧ F 20 = 8 + h1 ∧ c2 = p h1 := by
      rcases hE2 with ⟨b', h', hb', hh', -, -, -, ⟨-, -, e⟩ | ⟨-, -, e⟩⟩ | ⟨h', hh', ⟨hl, e1, e2, hc⟩ | ⟨hl, e1, e2, hc⟩⟩
      · omega
      · omega
      · exact ⟨h', hh', hl, e1, hc⟩
      · omega
    rw [hF1] at hPF2 hDF2 hDc2 hsc2
    have hlow : ∀ k, gw_Pt (gw_E (gf_may dr li) x (gw_fk (12 * b + h + 1)) ld p pw) (8 + h) D F k 20 → d1 + 1 = k := fun k hk => gw_Pt_u _ _ _ hP20 hk
    have hD1 : D (8 + h1) = 0 := gw_zero a4 hD0 d1 (8 + h1) hPF2 (fun k hk => by have := hlow k hk; omega)
    have hpp : p h2 = p h1 := by omega
    have hne : h2 ≠ h1 := fun q => by
      rw [hn1, q] at b3'
      have := gw_Pt_u _ _ _ b3' hPF2
      omega
    obtain ⟨fu', rfl⟩ : ∃ q, fu1 = q + 2 := ⟨fu1 - 2, by omega⟩
    obtain ⟨w, hw⟩ : ∃ w, ld h2 = w + 1 := ⟨ld h2 - 1, by omega⟩
    have hl8 := hld8 h2 hh2
    have hSw := gf_SR_ld b8 (g := h2) (v := w)
    have hSv := gf_SR_ld hSw (g := h1) (v := ld h1 + 1)
    have f2 : gh_fr gw_CT S1 (gh_fI (gh_fI S2 89 h2 (nI w)) 89 h1 (nI (ld h1 + 1))) := gh_fr_fI (gh_fr_fI b11 rfl) rfl
    have es : sX10_turns_2 N (fu' + 2) (nI (8 + h)) (nI n1) S2 = sX10_turns_2 N fu' (nI (8 + h)) (nI (8 + h1)) (gh_fI (gh_fI S2 89 h2 (nI w)) 89 h1 (nI (ld h1 + 1))) := by
      have hsd2 := gw_SD_fr a3 b11
      have fr91 : (gh_fI S2 89 h2 (nI w)).1 91 20 = nI (8 + h1) := by
        rw [gh_fI_1, if_neg (by omega), (hsd2 20 (by omega)).2 hDF (by omega), hF1]
      rw [sX10_turns_2, gh_n_eq (by omega) (by omega), decide_eq_false hdone, cond_false, gh_ra_n b4 (by decide), gq_bs, (hsd2 n1 b4).2 (by omega) hdone, hF20, show gh_cmp .ge (nI 20) 8 = true from rfl, cond_true, show gh_cmp .ge (nI n1) 8 = decide (8 ≤ n1) from gh_n_ge (b := 8) (by omega) (by omega), decide_eq_true (by omega), cond_true, show gh_cmp .ne (nI n1) 20 = decide (n1 ≠ 20) from gh_n_ne (b := 20) (by omega) (by omega), decide_eq_true b5, cond_true, show nI n1 - 8 = nI h2 from by rw [hn1, show (8 : Int32) = nI 8 from rfl, pk_sub (by omega), Nat.add_sub_cancel_left], gh_ra_n hh2 (by decide), gq_bs, b8.2 h2 hh2, hw, nI_pred, gh_wa_n hh2 (by decide), gq_bs]
      rw [sX10_turns_2, gh_n_eq (by omega) (by omega), decide_eq_false (by omega), cond_false, gh_ra_n (by omega) (by decide), gq_bs, fr91, show gh_cmp .ge (nI (8 + h1)) 8 = decide (8 ≤ 8 + h1) from gh_n_ge (b := 8) (by omega) (by omega), decide_eq_true (by omega), cond_true, show gh_cmp .ge (nI 20) 8 = true from rfl, cond_true, show gh_cmp .ne (nI 20) 20 = false from rfl, cond_false, show nI (8 + h1) - 8 = nI h1 from by rw [show (8 : Int32) = nI 8 from rfl, pk_sub (by omega), Nat.add_sub_cancel_left], gh_ra_n hh1 (by decide), gq_bs, hSw.2 h1 hh1, gh_nu_n _ _ (fun q => hne q.symm), nI_1, gh_wa_n hh1 (by decide), gq_bs]
      rfl
    have hplq : gf_plq p (gh_nu (gh_nu ld h2 w) h1 (ld h1 + 1)) ld := by
      have := gf_pl_mv (p := p) (ld := ld) hh2 hh1 hne hpp (by omega)
      rw [show ld h2 - 1 = w by omega] at this
      exact this
    obtain ⟨g1, g2, g3, g4, g5, -⟩ := b9
    obtain ⟨d3, n3, fu3, S3, x3, e1, e2, e3, e4, e5, e6, e7, e8, e9, e10, e11⟩ := gw_seg (may := gf_may dr li) (x := x) (fx := gw_fk (12 * b + h + 1)) (ld := ld) (p := p) (T := fun b' => if b' = b then nd b - 1 else nd b') (ld' := gh_nu (gh_nu ld h2 w) h1 (ld h1 + 1)) (pw := pw) (bg := 8 + h) (D := D) (F := F) (J := fun _ => True) (Kn := fun _ => True) N a4 (d0 := d1) (fun _ _ _ _ _ _ _ _ _ => trivial) (fun _ _ _ _ _ _ _ => trivial) d1 (8 + h1) fu' (gh_fI (gh_fI S2 89 h2 (nI w)) 89 h1 (nI (ld h1 + 1))) x2 (Nat.le_refl _) hPF2 (by omega) (by omega) hDF2 (by omega) hSv (gw_SD_fr a3 f2) ⟨fun b' hb' => by
        have := g1 b' hb'
        rw [if_neg (show ¬ b' = n1 by omega)] at this
        rw [if_neg (show ¬ b' = 8 + h1 by omega)]
        exact this, fun g hg => by
        have := g2 g hg
        by_cases q1 : g = h1
        · subst q1
          rw [if_neg (by omega)] at this
          rw [if_pos rfl, gh_nu_s]
          omega
        · rw [if_neg (show ¬ 8 + g = 8 + h1 by omega), gh_nu_n _ _ q1]
          by_cases q2 : g = h2
          · subst q2
            rw [if_pos (by omega)] at this
            rw [gh_nu_s]
            omega
          · rw [if_neg (by omega)] at this
            rw [gh_nu_n _ _ q2]
            exact this, g3, g4, fun b' h' hb' hh' q1 q2 => g5 b' h' hb' hh' (fun m hm => by have := q1 m hm; omega) (fun m hm => by have := q2 m hm; omega), trivial⟩ trivial (by omega)
    have hn3 : n3 = 8 + h := by
      rcases e10 with q | ⟨q1, q2⟩
      · exact q
      · cases d3 with
        | zero => exact absurd (show n3 = 8 + h from e3) q2
        | succ d3 =>
          have h1 := e3.2.2.2.2
          rw [q1] at h1
          have := hlow d3 h1
          omega
    subst hn3
    obtain ⟨fu3', rfl⟩ : ∃ q, fu3 = q + 1 := ⟨fu3 - 1, by omega⟩
    obtain ⟨x', ld', k1, k2⟩ := fin S3 x3 _ d3 0 e8 e9 (fun g hg => by
      have := hle0 g hg
      by_cases q1 : g = h1
      · subst q1
        rw [gh_nu_s]
        omega
      · rw [gh_nu_n _ _ q1]
        by_cases q2 : g = h2
        · subst q2
          rw [gh_nu_s]
          omega
        · rw [gh_nu_n _ _ q2]
          exact this) hplq
    refine ⟨S3, x', ld', ?_, gh_fr_trans f1 (gh_fr_mono (gh_fr_trans f2 e11) gw_CR_CT), k1, k2⟩
    rw [b1', es, e1, sX10_turns_2, gh_n_eq (by omega) (by omega), decide_eq_true rfl]
    rfl
end GwR
