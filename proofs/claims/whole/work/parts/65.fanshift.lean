/-! ===== FANS: the class's shift ===== -/
def gf_PI (may op : Nat → Nat → Bool) (T : Nat → Nat) (pw : Nat) (p : Nat → Nat) (bn : Nat) (x0 : Nat → Nat → Bool) (ld0 : Nat → Nat) (J : (Nat → Nat → Bool) → Prop) (x' : Nat → Nat → Bool) (ld' : Nat → Nat) (h : Nat) : Prop :=
  (∀ b, b < 8 → gf_row x' b + (if b = bn then 1 else 0) = T b) ∧ (∀ g, g < 12 → gf_col x' g + (if g = h then 1 else 0) = ld' g) ∧ (∀ g, g < 12 → ld' g ≤ pw) ∧ (∀ b g, b < 8 → g < 12 → x' b g = true → may b g = true) ∧ (∀ b g, b < 8 → g < 12 → op b g = false → x' b g = x0 b g) ∧ gf_plq p ld' ld0 ∧ J x'
theorem gf_pl_mv {p ld : Nat → Nat} {h g : Nat} (hh : h < 12) (hg : g < 12) (hne : h ≠ g) (hp : p h = p g) (h1 : 1 ≤ ld h) : gf_plq p (gh_nu (gh_nu ld h (ld h - 1)) g (ld g + 1)) ld := by
  intro c
  unfold gf_pl
  have e1 : (fun k => if p k = c then gh_nu (gh_nu ld h (ld h - 1)) g (ld g + 1) k else 0) = gh_nu (gh_nu (fun k => if p k = c then ld k else 0) h (if p h = c then ld h - 1 else 0)) g (if p g = c then ld g + 1 else 0) := by
    funext k
    unfold gh_nu
    by_cases a : k = g
    · simp [a]
    · by_cases b : k = h
      · subst b
        simp [a]
      · simp [a, b]
  rw [e1]
  have s1 := gh_sm_nu (gh_nu (fun k => if p k = c then ld k else 0) h (if p h = c then ld h - 1 else 0)) g (if p g = c then ld g + 1 else 0) 12 hg
  have s2 := gh_sm_nu (fun k => if p k = c then ld k else 0) h (if p h = c then ld h - 1 else 0) 12 hh
  rw [gh_nu_n _ _ (fun w => hne w.symm)] at s1
  by_cases e : p h = c
  · have hgc : p g = c := by omega
    simp only [if_pos e, if_pos hgc] at s1 s2 ⊢
    omega
  · have hgc : ¬ p g = c := by omega
    simp only [if_neg e, if_neg hgc] at s1 s2 ⊢
    omega
def gf_CP (c _k : Nat) : Bool := Nat.beq c 36 || Nat.beq c 32
theorem gf_CW_CP : ∀ c k, gf_CP c k = true → gf_CW c k = true := by
  intro c k h
  unfold gf_CP at h
  unfold gf_CW
  simp only [Bool.or_eq_true, Bool.and_eq_true, Nat.beq_eq, Nat.ble_eq] at h ⊢
  omega
/-- a row set anew -/
theorem gf_SC_row {S : gh_St} {x op : Nat → Nat → Bool} {ld : Nat → Nat} (h : gf_SC S x op ld) {b g : Nat} (v : Bool) (hb : b < 8) {m : Int32} (hm : m = nI (gf_mk (gf_u x b g v b))) : gf_SC (gh_fI S 36 b m) (gf_u x b g v) op ld := by
  refine ⟨fun b' hb' => ⟨?_, ?_⟩, fun k hk => ?_⟩
  · rw [gh_fI_1]
    by_cases e : b' = b
    · subst e
      rw [if_pos ⟨rfl, rfl⟩, hm]
    · rw [if_neg (fun w => e w.2), (h.1 b' hb').1]
      congr 2
      funext g'
      exact (gf_u_n x v (fun w => e w.1)).symm
  · rw [gh_fI_1, if_neg (by omega)]
    exact (h.1 b' hb').2
  · rw [gh_fI_1, if_neg (by omega)]
    exact h.2 k hk
theorem gf_SC_ld {S : gh_St} {x op : Nat → Nat → Bool} {ld : Nat → Nat} (h : gf_SC S x op ld) {g v : Nat} : gf_SC (gh_fI S 32 g (nI v)) x op (gh_nu ld g v) := by
  refine ⟨fun b' hb' => ⟨?_, ?_⟩, fun k hk => ?_⟩
  · rw [gh_fI_1, if_neg (by omega)]; exact (h.1 b' hb').1
  · rw [gh_fI_1, if_neg (by omega)]; exact (h.1 b' hb').2
  · rw [gh_fI_1]
    by_cases e : k = g
    · subst e
      rw [if_pos ⟨rfl, rfl⟩, gh_nu_s]
    · rw [if_neg (fun w => e w.2), gh_nu_n _ _ e]; exact h.2 k hk
theorem gf_u_row_t (x : Nat → Nat → Bool) (b h : Nat) : gf_mk (fun i => x b i || Nat.beq i h) = gf_mk (gf_u x b h true b) := by
  refine gf_mk_cg (fun i _ => ?_)
  unfold gf_u
  by_cases e : i = h
  · subst e
    simp
  · rw [if_neg (fun w => e w.2), show Nat.beq i h = false from gf_bf (fun w => e (Nat.eq_of_beq_eq_true w)), Bool.or_false]
theorem gf_u_row_f (x : Nat → Nat → Bool) (b h : Nat) : gf_mk (fun i => x b i && !Nat.beq i h) = gf_mk (gf_u x b h false b) := by
  refine gf_mk_cg (fun i _ => ?_)
  unfold gf_u
  by_cases e : i = h
  · subst e
    simp
  · rw [if_neg (fun w => e w.2), show Nat.beq i h = false from gf_bf (fun w => e (Nat.eq_of_beq_eq_true w)), Bool.not_false, Bool.and_true]
section GfShift
variable {may op x : Nat → Nat → Bool} {T ld p ld0 : Nat → Nat} {pw bn : Nat} {rt : Nat → Bool} {sp : Bool} {bb : Nat → Nat} {ff : Nat → Option Nat} {J : (Nat → Nat → Bool) → Prop} {K Kb : Nat → Prop} {L : List Nat} (N : Nat)
theorem gf_shift4 (hbn : bn < 8) (hom : ∀ b h, b < 8 → h < 12 → op b h = true → may b h = true) (hJ : ∀ x' b h v, b < 8 → h < 12 → Kb b → K h → J x' → J (gf_u x' b h v)) (hK1 : ∀ b h, b < 8 → h ∈ L → op b h = true → x b h = false → (b = bn ∨ ∃ g, g ∈ L ∧ x b g = true) → K h → Kb b) (hK2 : ∀ b g, b < 8 → g ∈ L → x b g = true → Kb b → K g) (hK3 : sp = true → ∀ g, K g) (hL12 : ∀ h, h ∈ L → h < 12) : ∀ (l : List Nat) (h i fu : Nat) (S : gh_St) (x' : Nat → Nat → Bool) (ld' : Nat → Nat), (∀ g, g ∈ l → g ∈ L) → l.Nodup → gf_V x op ld p pw bn rt sp bb ff l → (∀ g, g ∈ l → S.1 34 g = nI (bb g) ∧ S.1 35 g = gf_fo (ff g)) → h ∈ l → i + l.length ≤ 12 → l.length < fu → gf_SC S x' op ld' → gf_PI may op T pw p bn x ld0 J x' ld' h → K h → (∀ g, g ∈ l → g ≠ h → ld' g = ld g ∧ ∀ b, b < 8 → x' b g = x b g) → (∀ b, b < 8 → x b h = false → x' b h = false) → ∃ S' x'' ld'', sX2_shift_4 N fu (nI h) (nI i) S = some S' ∧ gf_SC S' x'' op ld'' ∧ gf_feas may T pw x'' ∧ (∀ g, g < 12 → gf_col x'' g = ld'' g) ∧ (∀ b g, b < 8 → g < 12 → op b g = false → x'' b g = x b g) ∧ gf_plq p ld'' ld0 ∧ J x'' ∧ (sp = false → ∀ g, ld'' g = ld' g) ∧ (∃ r, r < 12 ∧ rt r = true ∧ x'' bn r = true) ∧ gh_fr gf_CP S S' := by
  intro l
  induction l with
  | nil => intro h i fu S x' ld' _ _ _ _ hm; exact absurd hm (List.not_mem_nil)
  | cons h0 l ih =>
    intro h i fu S x' ld' hsub hnd hV hcell hm hi hfu hS hP hKh hag hoff
    obtain ⟨hnot, hnd'⟩ := List.nodup_cons.mp hnd
    have hcell' : ∀ g, g ∈ l → S.1 34 g = nI (bb g) ∧ S.1 35 g = gf_fo (ff g) := fun g hg => hcell g (List.mem_cons_of_mem _ hg)
    have hsub' : ∀ g, g ∈ l → g ∈ L := fun g hg => hsub g (List.mem_cons_of_mem _ hg)
    rw [List.length_cons] at hi hfu
    by_cases e : h = h0
    · subst e
      obtain ⟨fu, rfl⟩ : ∃ w, fu = w + 1 := ⟨fu - 1, by omega⟩
      have hL := hsub h List.mem_cons_self
      have hh := hL12 h hL
      obtain ⟨c1, c2⟩ := hcell h List.mem_cons_self
      have hne1 : gh_cmp .eq (nI h) (-1) = false := by
        rw [gh_c_eq, nI_toInt (by omega)]
        exact decide_eq_false (by show ¬ (h : Int) = -1; omega)
      obtain ⟨p1, p2, p3, p4, p5, p6, p7⟩ := hP
      rw [sX2_shift_4, show gh_cmp .ge (nI i) 12 = decide (12 ≤ i) from gh_n_ge (b := 12) (by omega) (by omega), decide_eq_false (by omega), cond_false, hne1, cond_false, gh_ra_n hh (by decide), gq_bs, gh_ra_n hh (by decide), gq_bs, c1, c2]
      unfold sX2_shift_97
      rw [nI_1]
      rcases hV.1 with ⟨v1, v2, v3, v4, v5⟩ | ⟨g, v0, v2, v1, v3, v4, v5, v6, v7⟩ | ⟨g, v0, v2, v1, v3, v4, v5, v6⟩
      · -- the root
        rw [v1, v2, show gh_cmp .ne (nI bn) 8 = decide (bn ≠ 8) from gh_n_ne (b := 8) (by omega) (by omega), decide_eq_true (by omega), cond_true, gh_ra_n hbn (by decide), gq_bs, gh_wa_n hbn (by decide), gq_bs, (hS.1 bn hbn).1, gf_set _ hh, gf_u_row_t]
        show ∃ S' x'' ld'', (bif true then sX2_shift_4 N fu (-1) (nI (i + 1)) (gh_fI S 36 bn (nI (gf_mk (gf_u x' bn h true bn)))) else _) = some S' ∧ _
        rw [cond_true]
        obtain ⟨fu, rfl⟩ : ∃ w, fu = w + 1 := ⟨fu - 1, by omega⟩
        have hx0 : x' bn h = false := hoff bn hbn v4
        have hend : sX2_shift_4 N (fu + 1) (-1) (nI (i + 1)) (gh_fI S 36 bn (nI (gf_mk (gf_u x' bn h true bn)))) = some (gh_fI S 36 bn (nI (gf_mk (gf_u x' bn h true bn)))) := by
          rw [sX2_shift_4, show gh_cmp .eq (-1 : Int32) (-1) = true from rfl]
          cases gh_cmp .ge (nI (i + 1)) 12 <;> rfl
        have hrow := gf_row_u (x := x') (b := bn) (h := h) true hh
        have hcol := gf_col_u (x := x') (b := bn) (h := h) true hbn
        rw [hx0] at hrow hcol
        have hrow' : gf_row (gf_u x' bn h true) bn = gf_row x' bn + 1 := hrow
        have hcol' : gf_col (gf_u x' bn h true) h = gf_col x' h + 1 := hcol
        have colall : ∀ g, g < 12 → gf_col (gf_u x' bn h true) g = ld' g := by
          intro g hg
          have := p2 g hg
          by_cases eg : g = h
          · subst eg
            rw [if_pos rfl] at this
            omega
          · rw [if_neg eg] at this
            rw [gf_col_n _ eg]
            exact this
        refine ⟨_, gf_u x' bn h true, ld', hend, gf_SC_row hS true hbn rfl, ⟨fun b hb => ?_, fun g hg => ?_, fun b g hb hg hx => ?_⟩, colall, fun b g hb hg ho => ?_, p6, ?_, fun _ _ => rfl, ⟨h, hh, v5, gf_u_s _ _ _ _⟩, gh_fr_fI (gh_fr_refl _ _) rfl⟩
        · have := p1 b hb
          by_cases eb : b = bn
          · subst eb
            rw [if_pos rfl] at this
            omega
          · rw [if_neg eb] at this
            rw [gf_row_n _ eb]
            exact this
        · rw [colall g hg]
          exact p3 g hg
        · by_cases eb : b = bn ∧ g = h
          · rw [eb.1, eb.2]
            exact hom bn h hbn hh v3
          · rw [gf_u_n _ _ eb] at hx
            exact p4 b g hb hg hx
        · by_cases eb : b = bn ∧ g = h
          · rw [eb.1, eb.2, v3] at ho
            cases ho
          · rw [gf_u_n _ _ eb]
            exact p5 b g hb hg ho
        · exact hJ x' bn h true hbn hh (hK1 bn h hbn hL v3 v4 (Or.inl rfl) hKh) hKh p7
      · -- by a bin
        have hgL := hsub' g v0
        have hg := hL12 g hgL
        have hgh : g ≠ h := fun w => hnot (w ▸ v0)
        have hb8 := v1
        have hx0 : x' (bb h) h = false := hoff _ hb8 v5
        obtain ⟨ldg, xg⟩ := hag g (List.mem_cons_of_mem _ v0) hgh
        have hxg : x' (bb h) g = true := (xg _ hb8).trans v6
        rw [v2, show gh_cmp .ne (nI (bb h)) 8 = decide (bb h ≠ 8) from gh_n_ne (b := 8) (by omega) (by omega), decide_eq_true (by omega), cond_true, gh_ra_n hb8 (by decide), gq_bs, gh_wa_n hb8 (by decide), gq_bs, (hS.1 _ hb8).1, gf_set _ hh, gf_u_row_t]
        have hgm1 : gh_cmp .eq (gf_fo (some g)) (-1) = false := by
          show gh_cmp .eq (nI g) (-1) = false
          rw [gh_c_eq, nI_toInt (by omega)]
          exact decide_eq_false (by show ¬ (g : Int) = -1; omega)
        have hS1 := gf_SC_row hS (b := bb h) (g := h) true hb8 rfl
        rw [hgm1, cond_false, gh_ra_n hb8 (by decide), gq_bs, gh_wa_n hb8 (by decide), gq_bs, (hS1.1 _ hb8).1]
        show ∃ S' x'' ld'', sX2_shift_4 N fu (nI g) (nI (i + 1)) (gh_fI (gh_fI S 36 (bb h) (nI (gf_mk (gf_u x' (bb h) h true (bb h))))) 36 (bb h) (nI (gf_mk (gf_u x' (bb h) h true (bb h))) &&& (((1 : Int32) <<< (nI g &&& 31)) ^^^ (-1 : Int32)))) = some S' ∧ _
        rw [gf_clr _ hg, gf_u_row_f]
        have hS2 := gf_SC_row hS1 (b := bb h) (g := g) false hb8 rfl
        have hxg1 : gf_u x' (bb h) h true (bb h) g = true := by rw [gf_u_n _ _ (fun w => hgh w.2)]; exact hxg
        have r1 := gf_row_u (x := x') (b := bb h) (h := h) true hh
        have r2 := gf_row_u (x := gf_u x' (bb h) h true) (b := bb h) (h := g) false hg
        have k1 := gf_col_u (x := x') (b := bb h) (h := h) true hb8
        have k2 := gf_col_u (x := gf_u x' (bb h) h true) (b := bb h) (h := g) false hb8
        rw [hx0] at r1 k1
        rw [hxg1] at r2 k2
        have r1' : gf_row (gf_u x' (bb h) h true) (bb h) = gf_row x' (bb h) + 1 := r1
        have r2' : gf_row (gf_u (gf_u x' (bb h) h true) (bb h) g false) (bb h) + 1 = gf_row (gf_u x' (bb h) h true) (bb h) := r2
        have k1' : gf_col (gf_u x' (bb h) h true) h = gf_col x' h + 1 := k1
        have k2' : gf_col (gf_u (gf_u x' (bb h) h true) (bb h) g false) g + 1 = gf_col (gf_u x' (bb h) h true) g := k2
        have kb := hK1 (bb h) h hb8 hL v4 v5 (Or.inr ⟨g, hgL, v6⟩) hKh
        have kg := hK2 (bb h) g hb8 hgL v6 kb
        have rd : ∀ b' k, ¬ (b' = bb h ∧ (k = h ∨ k = g)) → gf_u (gf_u x' (bb h) h true) (bb h) g false b' k = x' b' k := fun b' k hn => by
          rw [gf_u_n _ _ (fun w => hn ⟨w.1, Or.inr w.2⟩), gf_u_n _ _ (fun w => hn ⟨w.1, Or.inl w.2⟩)]
        obtain ⟨S', x'', ld'', a1, a2, a3, a4, a5, a6, a7, a8, a9, a10⟩ := ih g (i + 1) fu _ (gf_u (gf_u x' (bb h) h true) (bb h) g false) ld' hsub' hnd' hV.2 (fun k hk => by
          simp only [gh_fI_1, Nat.reduceEqDiff, false_and, if_false]
          exact hcell' k hk) v0 (by omega) (by omega) hS2 ⟨fun b hb => by
            have := p1 b hb
            by_cases eb : b = bb h
            · subst eb
              omega
            · rw [gf_row_n _ eb, gf_row_n _ eb]
              exact this, fun k hk => by
            have := p2 k hk
            by_cases e1 : k = g
            · subst e1
              rw [if_neg hgh] at this
              rw [if_pos rfl]
              rw [gf_col_n _ hgh] at k2'
              omega
            · rw [if_neg e1, gf_col_n _ e1]
              by_cases e2 : k = h
              · subst e2
                rw [if_pos rfl] at this
                omega
              · rw [if_neg e2] at this
                rw [gf_col_n _ e2]
                exact this, p3, fun b k hb hk hx => by
            by_cases e1 : b = bb h ∧ (k = h ∨ k = g)
            · obtain ⟨e1, e2 | e2⟩ := e1
              · rw [e1, e2]
                exact hom _ _ hb8 hh v4
              · rw [e1, e2]
                exact hom _ _ hb8 hg v7
            · rw [rd b k e1] at hx
              exact p4 b k hb hk hx, fun b k hb hk ho => by
            by_cases e1 : b = bb h ∧ (k = h ∨ k = g)
            · obtain ⟨e1, e2 | e2⟩ := e1
              · rw [e1, e2, v4] at ho
                cases ho
              · rw [e1, e2, v7] at ho
                cases ho
            · rw [rd b k e1]
              exact p5 b k hb hk ho, p6, hJ _ _ _ _ hb8 hg kb kg (hJ _ _ _ _ hb8 hh kb hKh p7)⟩ kg (fun k hk hkg => by
          have hkh : k ≠ h := fun w => hnot (w ▸ hk)
          obtain ⟨q1, q2⟩ := hag k (List.mem_cons_of_mem _ hk) hkh
          refine ⟨q1, fun b hb => ?_⟩
          rw [rd b k (fun w => w.2.elim hkh hkg)]
          exact q2 b hb) (fun b hb hx => by
          by_cases e1 : b = bb h
          · rw [e1, gf_u_s]
          · rw [rd b g (fun w => e1 w.1), xg b hb]
            exact hx)
        exact ⟨S', x'', ld'', a1, a2, a3, a4, a5, a6, a7, a8, a9, gh_fr_trans (gh_fr_fI (gh_fr_fI (gh_fr_refl _ _) rfl) rfl) a10⟩
      · -- by spare power
        have hgL := hsub' g v0
        have hg := hL12 g hgL
        have hgh : g ≠ h := fun w => hnot (w ▸ v0)
        obtain ⟨ldg, xg⟩ := hag g (List.mem_cons_of_mem _ v0) hgh
        have hld : 1 ≤ ld' h := by
          have := p2 h hh
          rw [if_pos rfl] at this
          omega
        have b1 := p3 h hh
        rw [v1, v2, show gh_cmp .ne (nI 8) 8 = false from rfl, cond_false, gh_ra_n hh (by decide), gq_bs, gh_wa_n hh (by decide), gq_bs, hS.2 h hh]
        obtain ⟨w, hw⟩ : ∃ w, ld' h = w + 1 := ⟨ld' h - 1, by omega⟩
        rw [hw, nI_pred]
        have hS1 := gf_SC_ld hS (g := h) (v := w)
        have hfo : gf_fo (some g) = nI g := rfl
        rw [hfo, gh_ra_n hg (by decide), gq_bs, gh_wa_n hg (by decide), gq_bs, hS1.2 g hg, gh_nu_n _ _ hgh, nI_1]
        have hS2 := gf_SC_ld hS1 (g := g) (v := ld' g + 1)
        have hplq : gf_plq p (gh_nu (gh_nu ld' h w) g (ld' g + 1)) ld' := by
          have := gf_pl_mv (p := p) (ld := ld') hh hg (fun w => hgh w.symm) v5 hld
          rw [show ld' h - 1 = w by omega] at this
          exact this
        obtain ⟨S', x'', ld'', a1, a2, a3, a4, a5, a6, a7, a8, a9, a10⟩ := ih g (i + 1) fu _ x' (gh_nu (gh_nu ld' h w) g (ld' g + 1)) hsub' hnd' hV.2 (fun k hk => by
          simp only [gh_fI_1, Nat.reduceEqDiff, false_and, if_false]
          exact hcell' k hk) v0 (by omega) (by omega) hS2 ⟨p1, fun k hk => by
            have := p2 k hk
            by_cases e1 : k = g
            · subst e1
              rw [if_neg hgh] at this
              rw [if_pos rfl, gh_nu_s]
              omega
            · rw [if_neg e1, gh_nu_n _ _ e1]
              by_cases e2 : k = h
              · subst e2
                rw [if_pos rfl] at this
                rw [gh_nu_s]
                omega
              · rw [if_neg e2] at this
                rw [gh_nu_n _ _ e2]
                exact this, fun k hk => by
            by_cases e1 : k = g
            · subst e1
              rw [gh_nu_s, ldg]
              omega
            · rw [gh_nu_n _ _ e1]
              by_cases e2 : k = h
              · subst e2
                rw [gh_nu_s]
                omega
              · rw [gh_nu_n _ _ e2]
                exact p3 k hk, p4, p5, fun c => (hplq c).trans (p6 c), p7⟩ (hK3 v6 g) (fun k hk hkg => by
          have hkh : k ≠ h := fun w => hnot (w ▸ hk)
          obtain ⟨q1, q2⟩ := hag k (List.mem_cons_of_mem _ hk) hkh
          refine ⟨?_, q2⟩
          rw [gh_nu_n _ _ hkg, gh_nu_n _ _ hkh]
          exact q1) (fun b hb hx => by rw [xg b hb]; exact hx)
        exact ⟨S', x'', ld'', a1, a2, a3, a4, a5, a6, a7, (fun hs => by rw [hs] at v6; cases v6), a9, gh_fr_trans (gh_fr_fI (gh_fr_fI (gh_fr_refl _ _) rfl) rfl) a10⟩
    · have hml : h ∈ l := (List.mem_cons.mp hm).resolve_left e
      exact ih h i fu S x' ld' hsub' hnd' hV.2 hcell' hml (by omega) (by omega) hS hP hKh (fun g hg => hag g (List.mem_cons_of_mem _ hg)) hoff
end GfShift
