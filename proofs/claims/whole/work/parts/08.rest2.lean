section GhRest2
variable {p : Program} {l : Launch} {e : Env} {R : Room} {s : State} {m : MethodId} {args : Array Value} {below : List Frame} {meth : Method} {c : Code} {Q : State → Prop} {cc : ByteArray} {nL o : Nat} {D : va_G} {ca : Nat → ClassId} {A : Nat → Prop} {rt : Option FieldType} {ls : Array Slot} {H : Heap} {locs : List Loc} {adK adV ad : Nat → Nat}
theorem gh_snd_sta {d z k v pc : Nat} {O : gh_O} {bc bs : Nat} {st : List Value} {Wm W' : gh_W} {pc' : Nat} {st' : List Value} (C : gh_C p s m args c cc nL o D ca adK adV A) (hd : decode cc pc = .ok (.invokestatic k, 3)) (hz : z < gh_NZ) (hkn : gh_kn z = 0) (hv : v = gh_pn z) (hb0 : (gh_bud z).1 = 0) (hlk : (o, k, z) ∈ gh_mlt ∨ (o, k, z, 9) ∈ gh_mnt)
    (h : gh_ivs O bc bs z v pc st Wm = some (.inl (pc', st', W'))) (hls : ls.size = nL) (hW : gh_Wd D ca A s ad Wm.1 H locs) (hwf : gh_wf Wm.1) (had : gh_ad adK ad) (hR : d + 7 ≤ R.frames ∧ 60 * d + 460 ≤ R.locals ∧ R.cells = bc ∧ R.slots = bs) (hO : gh_Os l D ca adK adV d O)
    (kk : ∀ H' locs', gh_Wd D ca A s ad W'.1 H' locs' → gh_wf W'.1 → Wm.1.1.length ≤ W'.1.1.length → W p l e R s m args below meth c H' locs' W'.2.1 W'.2.2 Q (F0 m pc' ls (st'.map (gh_tv ad)))) : W p l e R s m args below meth c H locs Wm.2.1 Wm.2.2 Q (F0 m pc ls (st.map (gh_tv ad))) := by
  obtain ⟨hlen, h⟩ := gh_ivs_inv h
  obtain ⟨hrm, hc1, hc2, rfl, y, M', hOz, rfl, rfl⟩ := gh_cal_inv h
  obtain ⟨hwf', hle, hy, hM⟩ := hO z _ _ _ _ hz hOz hwf
  obtain ⟨f1, f2, f3, f4, f5, f6, f7, f8⟩ := gh_mfacts hz
  have hC := C
  obtain ⟨hx, hb, hml, hown, hts, hX, hA, hJ⟩ := C
  have hroom : (gh_rmz d z).frames + 1 ≤ R.frames ∧ 8 + (gh_ln z + 11) + (gh_rmz d z).locals ≤ R.locals := ⟨hR.1, by show 8 + (gh_ln z + 11) + (60 * d + 400) ≤ R.locals; omega⟩
  have hrs : (((st.drop v).map (gh_tv ad)).map fun v => v.category).sum ≤ 8 := by rw [gh_cat]; exact gh_rm_le hrm
  have hnA : (((st.take v).reverse).map (gh_tv ad)).length = gh_pn z := by simp [hlen, ← hv]
  have run : va_Run p l e R s m args below meth c H locs Wm.2.1 Wm.2.2 (gh_bud z).1 (gh_bud z).2 (F0 m pc ls (st.map (gh_tv ad))) ((st.drop v).map (gh_tv ad)) (gh_Qc D ca z ad H.size Wm.1 y M' (((st.take v).reverse).map (gh_tv ad)).toArray) (va_A (gh_ws ad ca Wm.1) H.size) := by
    rcases hlk with hlk | hlk
    · exact va_runS ⟨hx, hb, hml, hown, hts⟩ (hM ad H.size) ⟨callB_of (gh_pn z) hts (gh_goodc hz) rfl rfl rfl (hts _ f1) (hts _ (gh_mlt_ok _ hlk)) f3 hroom, hts _ (f6 hkn)⟩ (gh_pre (z := z) hC hW had) rfl hnA hls (gh_stk ad) (lv_room hrs) hd ⟨by rw [hR.2.2.1]; exact hc1, by rw [hR.2.2.2]; exact hc2⟩
    · exact va_runSN ⟨hx, hb, hml, hown, hts⟩ (hM ad H.size) ⟨va_cnB (gh_pn z) hts (gh_goodc hz) rfl rfl rfl (hX.2 _ hlk) (hts _ f1) f3 hroom, hts _ (f6 hkn), trivial⟩ (gh_pre (z := z) hC hW had) rfl hnA hls (gh_stk ad) (lv_room hrs) hd ⟨by rw [hR.2.2.1]; exact hc1, by rw [hR.2.2.2]; exact hc2⟩
  refine gh_snd_call (z := z) hC hW hy run (fun ad' H' locs' hW' hag h0 => ?_)
  have ea := h0 hb0
  subst ea
  have k2 := kk H' locs' hW' hwf' hle
  have e1 : (y.toList ++ st.drop v).map (gh_tv ad') = y.toList ++ (st.drop v).map (gh_tv ad') := by
    rw [List.map_append]
    congr 1
    cases y with
    | none => rfl
    | some x => rcases hy x rfl with ⟨i, rfl⟩ | ⟨i, rfl⟩ <;> rfl
  rw [e1] at k2
  exact k2
theorem gh_snd_vir {d z k v pc : Nat} {O : gh_O} {bc bs : Nat} {st : List Value} {Wm W' : gh_W} {pc' : Nat} {st' : List Value} (C : gh_C p s m args c cc nL o D ca adK adV A) (hd : decode cc pc = .ok (.invokevirtual k, 3)) (hz : z < gh_NZ) (hkn : gh_kn z = 1) (hv : v = gh_pn z) (hb0 : (gh_bud z).1 = 0) (hlk : (o, k, z) ∈ gh_mlt)
    (h : gh_ivv O bc bs z v pc st Wm = some (.inl (pc', st', W'))) (hls : ls.size = nL) (hW : gh_Wd D ca A s ad Wm.1 H locs) (hwf : gh_wf Wm.1) (had : gh_ad adK ad) (hR : d + 7 ≤ R.frames ∧ 60 * d + 460 ≤ R.locals ∧ R.cells = bc ∧ R.slots = bs) (hO : gh_Os l D ca adK adV d O)
    (kk : ∀ H' locs', gh_Wd D ca A s ad W'.1 H' locs' → gh_wf W'.1 → Wm.1.1.length ≤ W'.1.1.length → W p l e R s m args below meth c H' locs' W'.2.1 W'.2.2 Q (F0 m pc' ls (st'.map (gh_tv ad)))) : W p l e R s m args below meth c H locs Wm.2.1 Wm.2.2 Q (F0 m pc ls (st.map (gh_tv ad))) := by
  obtain ⟨hlen, b, r, hdr, hsh, h⟩ := gh_ivv_inv h
  obtain ⟨hrm, hc1, hc2, rfl, y, M', hOz, rfl, rfl⟩ := gh_cal_inv h
  obtain ⟨hwf', hle, hy, hM⟩ := hO z _ _ _ _ hz hOz hwf
  obtain ⟨f1, f2, f3, f4, f5, f6, f7, f8⟩ := gh_mfacts hz
  have hC := C
  obtain ⟨hx, hb, hml, hown, hts, hX, hA, hJ⟩ := C
  have hroom : (gh_rmz d z).frames + 1 ≤ R.frames ∧ 8 + (gh_ln z + 11) + (gh_rmz d z).locals ≤ R.locals := ⟨hR.1, by show 8 + (gh_ln z + 11) + (60 * d + 400) ≤ R.locals; omega⟩
  have hrs : ((r.map (gh_tv ad)).map fun v => v.category).sum ≤ 8 := by rw [gh_cat]; exact gh_rm_le hrm
  have hnA : (((st.take v).reverse).map (gh_tv ad)).length = gh_pn z := by simp [hlen, ← hv]
  have hu : gh_oc z < 11 := by
    have hq := hW.1 b _ (gh_get_obj hsh)
    obtain ⟨q, hq1, -⟩ := hq
    have := (List.getElem?_eq_some_iff.mp hq1).1
    exact this
  have hpre := gh_pre (z := z) (As := .ref b :: (st.take v).reverse) hC hW had
  have hst : st.map (gh_tv ad) = (((st.take v).reverse).map (gh_tv ad)).reverse ++ Value.ref (ad b) :: r.map (gh_tv ad) := by
    rw [gh_stk (v := v) ad, hdr]
    rfl
  have run : va_Run p l e R s m args below meth c H locs Wm.2.1 Wm.2.2 (gh_bud z).1 (gh_bud z).2 (F0 m pc ls (st.map (gh_tv ad))) (r.map (gh_tv ad)) (gh_Qc D ca z ad H.size Wm.1 y M' (Value.ref (ad b) :: ((st.take v).reverse).map (gh_tv ad)).toArray) (va_A (gh_ws ad ca Wm.1) H.size) :=
    va_runV (C := (gh_yn z).cls) ⟨hx, hb, hml, hown, hts⟩ (hM ad H.size) ⟨callB_of (gh_pn z) hts (gh_goodc hz) rfl rfl rfl (hts _ f1) (hts _ (gh_mlt_ok _ hlk)) f3 hroom, hts _ (f7 hkn).1, hts _ (f7 hkn).2⟩ ⟨hpre.1, by
      have := va_recv (q0 := b) hX.1 hW.1 (gh_cl (gh_oc z) hu).1 (gh_get_obj hsh)
      rw [f2]
      exact this, hpre.2⟩ rfl hnA hls hst (lv_room hrs) hd ⟨by rw [hR.2.2.1]; exact hc1, by rw [hR.2.2.2]; exact hc2⟩
  refine gh_snd_call (z := z) hC hW hy run (fun ad' H' locs' hW' hag h0 => ?_)
  have ea := h0 hb0
  subst ea
  have k2 := kk H' locs' hW' hwf' hle
  have e1 : (y.toList ++ r).map (gh_tv ad') = y.toList ++ r.map (gh_tv ad') := by
    rw [List.map_append]
    congr 1
    cases y with
    | none => rfl
    | some x => rcases hy x rfl with ⟨i, rfl⟩ | ⟨i, rfl⟩ <;> rfl
  rw [e1] at k2
  exact k2
/-- a constructor's call -/
theorem gh_snd_spe {d z k v pc : Nat} {O : gh_O} {bc bs : Nat} {st : List Value} {Wm W' : gh_W} {pc' : Nat} {st' : List Value} (C : gh_C p s m args c cc nL o D ca adK adV A) (hd : decode cc pc = .ok (.invokespecial k, 3)) (hz : z < gh_NZ) (hkn : gh_kn z = 2) (hv : v = gh_pn z) (hlk : (o, k, z) ∈ gh_mlt ∨ (o, k, z, 9) ∈ gh_mnt)
    (h : gh_spe O bc bs z v pc st Wm = some (.inl (pc', st', W'))) (hval : st.all (gh_vv Wm.1.1.length) = true) (hls : ls.size = nL) (hW : gh_Wd D ca A s ad Wm.1 H locs) (hwf : gh_wf Wm.1) (had : gh_ad adK ad) (hR : d + 7 ≤ R.frames ∧ 60 * d + 460 ≤ R.locals ∧ R.cells = bc ∧ R.slots = bs) (hO : gh_Os l D ca adK adV d O)
    (kk : ∀ ad' H' locs', gh_ag Wm.1.1.length ad ad' → (bc = 0 → ad' = ad) → gh_Wd D ca A s ad' W'.1 H' locs' → gh_wf W'.1 → Wm.1.1.length ≤ W'.1.1.length → W'.2.1 ≤ bc → W'.2.2 ≤ bs → W p l e R s m args below meth c H' locs' W'.2.1 W'.2.2 Q (F0 m pc' ls (st'.map (gh_tv ad')))) : W p l e R s m args below meth c H locs Wm.2.1 Wm.2.2 Q (F0 m pc ls (st.map (gh_tv ad))) := by
  have hne : z ≠ 2000 := by
    intro q
    subst q
    exact absurd hz (by decide)
  obtain ⟨hlen, b, r, hdr, h⟩ := gh_spe_inv hne h
  obtain ⟨hrm, hc1, hc2, rfl, y, M', hOz, rfl, rfl⟩ := gh_cal_inv h
  obtain ⟨hwf', hle, hy, hM⟩ := hO z _ _ _ _ hz hOz hwf
  obtain ⟨f1, f2, f3, f4, f5, f6, f7, f8⟩ := gh_mfacts hz
  have hC := C
  obtain ⟨hx, hb, hml, hown, hts, hX, hA, hJ⟩ := C
  obtain ⟨g1, g2, g3⟩ := f8 hkn
  have hroom : (gh_rmz d z).frames + 1 ≤ R.frames ∧ 8 + (gh_ln z + 11) + (gh_rmz d z).locals ≤ R.locals := ⟨hR.1, by show 8 + (gh_ln z + 11) + (60 * d + 400) ≤ R.locals; omega⟩
  have hrs : ((r.map (gh_tv ad)).map fun v => v.category).sum ≤ 8 := by rw [gh_cat]; exact gh_rm_le hrm
  have hnA : (((st.take v).reverse).map (gh_tv ad)).length = gh_pn z := by simp [show v ≤ st.length by omega, ← hv]
  have hpre := gh_pre (z := z) (As := .ref b :: (st.take v).reverse) hC hW had
  have hst : st.map (gh_tv ad) = (((st.take v).reverse).map (gh_tv ad)).reverse ++ Value.ref (ad b) :: r.map (gh_tv ad) := by
    rw [gh_stk (v := v) ad, hdr]
    rfl
  have hM2 := hM ad H.size
  unfold gh_Met at hM2
  have run : va_Run p l e R s m args below meth c H locs Wm.2.1 Wm.2.2 (gh_bud z).1 (gh_bud z).2 (F0 m pc ls (st.map (gh_tv ad))) (r.map (gh_tv ad)) (gh_Qc D ca z ad H.size Wm.1 y M' (Value.ref (ad b) :: ((st.take v).reverse).map (gh_tv ad)).toArray) (va_A (gh_ws ad ca Wm.1) H.size) := by
    have hg := gh_goodc hz
    rw [g3] at hM2 hg
    rcases hlk with hlk | hlk
    · exact va_runI ⟨hx, hb, hml, hown, hts⟩ hM2 ⟨callB_of (gh_pn z) hts hg rfl rfl rfl (hts _ f1) (hts _ (gh_mlt_ok _ hlk)) f3 hroom, g2, hts _ g1⟩ hpre rfl hnA hls hst (lv_room hrs) hd ⟨by rw [hR.2.2.1]; exact hc1, by rw [hR.2.2.2]; exact hc2⟩
    · exact va_runIN ⟨hx, hb, hml, hown, hts⟩ hM2 ⟨va_cnB (gh_pn z) hts hg rfl rfl rfl (hX.2 _ hlk) (hts _ f1) f3 hroom, g2, hts _ g1⟩ hpre rfl hnA hls hst (lv_room hrs) hd ⟨by rw [hR.2.2.1]; exact hc1, by rw [hR.2.2.2]; exact hc2⟩
  refine gh_snd_call (z := z) hC hW hy run (fun ad' H' locs' hW' hag h0 => ?_)
  have k2 := kk ad' H' locs' hag (fun q => h0 (by omega)) hW' hwf' hle hc1 hc2
  have hr : r.all (gh_vv Wm.1.1.length) = true := by
    rw [List.all_eq_true] at hval ⊢
    intro q hq
    exact hval q (List.mem_of_mem_drop (i := v) (by rw [hdr]; exact List.mem_cons_of_mem _ hq))
  have e1 : (y.toList ++ r).map (gh_tv ad') = y.toList ++ r.map (gh_tv ad) := by
    rw [List.map_append, gh_ag_st hag hr]
    congr 1
    cases y with
    | none => rfl
    | some x => rcases hy x rfl with ⟨i, rfl⟩ | ⟨i, rfl⟩ <;> rfl
  rw [e1] at k2
  exact k2
theorem gh_snd_str {d k pc : Nat} {bc bs : Nat} {st : List Value} {Wm W' : gh_W} {pc' : Nat} {st' : List Value} (C : gh_C p s m args c cc nL 6 D ca adK adV A) (hd : decode cc pc = .ok (.invokevirtual k, 3)) (hcs : (k = 93 ∧ gh_sln pc st Wm = some (.inl (pc', st', W'))) ∨ (k = 98 ∧ gh_sch pc st Wm = some (.inl (pc', st', W'))))
    (hls : ls.size = nL) (hW : gh_Wd D ca A s ad Wm.1 H locs) (had : gh_ad adK ad) (hR : d + 7 ≤ R.frames ∧ 60 * d + 460 ≤ R.locals ∧ R.cells = bc ∧ R.slots = bs) (hcs2 : Wm.2.1 ≤ bc ∧ Wm.2.2 ≤ bs)
    (kk : ∀ H' locs', gh_Wd D ca A s ad W'.1 H' locs' → W' = Wm → W p l e R s m args below meth c H' locs' W'.2.1 W'.2.2 Q (F0 m pc' ls (st'.map (gh_tv ad)))) : W p l e R s m args below meth c H locs Wm.2.1 Wm.2.2 Q (F0 m pc ls (st.map (gh_tv ad))) := by
  have hC := C
  obtain ⟨hx, hb, hml, hown, hts, hX, hA, hJ⟩ := C
  obtain ⟨w1, w2, w3, w4, w5, w6, w7⟩ := gj_w_len
  have hJ1 : ∀ U : State, U.heap = H → s.WarmedH U.vm → gh_J adK adV (fun _ => False) U H := fun U hU hWm => gh_J.warm hWm ((hJ.kept hW.2.2.2.1).narrow (fun _ z => z.elim))
  have hsx : ∀ q i, gh_six q = some i → ad q = adK i ∧ i < 2 := by
    intro q i hq
    rcases gh_six_inv hq with ⟨rfl, rfl⟩ | ⟨rfl, rfl⟩
    · exact ⟨had.1, by decide⟩
    · exact ⟨had.2, by decide⟩
  rcases hcs with ⟨rfl, h⟩ | ⟨rfl, h⟩
  · obtain ⟨q, i, r, rfl, h1, h2, rfl, rfl, rfl⟩ := gh_sln_inv h
    obtain ⟨e1, hi⟩ := hsx q i h1
    have hrs : ((r.map (gh_tv ad)).map fun v => v.category).sum ≤ 8 := by rw [gh_cat]; exact gh_rm_le h2
    have hst : (Value.ref q :: r).map (gh_tv ad) = ([] : List Value).reverse ++ .ref (adK i) :: r.map (gh_tv ad) := by
      rw [← e1]
      rfl
    refine va_calli (a := (Value.ref (adK i) :: []).toArray) (post := fun r _ => r = nI (gh_sl.getD i 0)) (B := gj_B H) (va_runV (C := RJ0) (As := []) (rest := r.map (gh_tv ad)) ⟨hx, hb, hml, hown, hts⟩ (gj_length l adK adV H i hi) ⟨callB_of 0 hts (gj_goodc gj_c_length) rfl rfl rfl (hts _ w3) (hts _ w1) (by decide +kernel) ⟨by show 1 + 1 ≤ R.frames; omega, by show 8 + (1 + 11) + 20 ≤ R.locals; omega⟩, hts _ w4, hts _ w6⟩ ⟨gj_blind, vk_recv hJ.1 hi hW.2.2, fun U hU hWm => ⟨rfl, hU, hJ1 U hU hWm⟩⟩ rfl rfl hls hst (lv_room hrs) hd ⟨by rw [hR.2.2.1]; exact hcs2.1, by rw [hR.2.2.2]; exact hcs2.2⟩) hW.2.2 (fun q _ h => h.elim) (fun q h => h.elim) (fun r1 u t H1 locs1 ht hvm hw hB hz1 hk1 hS1 => ?_)
    have e2 : H1 = H := ht.symm.trans hB
    subst e2
    subst hw
    exact kk H1 locs1 ⟨hW.1, hW.2.1, hS1⟩ rfl
  · obtain ⟨j, q, i, r, rfl, h1, h2, h3, rfl, rfl, rfl⟩ := gh_sch_inv h
    obtain ⟨e1, hi⟩ := hsx q i h1
    have hrs : ((r.map (gh_tv ad)).map fun v => v.category).sum ≤ 8 := by rw [gh_cat]; exact gh_rm_le h2
    have hst : (Value.int j :: Value.ref q :: r).map (gh_tv ad) = ([.int j] : List Value).reverse ++ .ref (adK i) :: r.map (gh_tv ad) := by
      rw [← e1]
      rfl
    refine va_calli (a := (Value.ref (adK i) :: [.int j]).toArray) (post := fun r _ => r = gh_sc i j) (B := gj_B H) (va_runV (C := RJ0) (As := [.int j]) (rest := r.map (gh_tv ad)) ⟨hx, hb, hml, hown, hts⟩ (gj_charAt l adK adV H i hi j h3) ⟨callB_of 1 hts (gj_goodc gj_c_charAt) rfl rfl rfl (hts _ w3) (hts _ w2) (by decide +kernel) ⟨by show 3 + 1 ≤ R.frames; omega, by show 8 + (2 + 11) + 90 ≤ R.locals; omega⟩, hts _ w5, hts _ w7⟩ ⟨gj_blind, vk_recv hJ.1 hi hW.2.2, fun U hU hWm => ⟨rfl, hU, hJ1 U hU hWm⟩⟩ rfl rfl hls hst (lv_room hrs) hd ⟨by rw [hR.2.2.1]; exact hcs2.1, by rw [hR.2.2.2]; exact hcs2.2⟩) hW.2.2 (fun q _ h => h.elim) (fun q h => h.elim) (fun r1 u t H1 locs1 ht hvm hw hB hz1 hk1 hS1 => ?_)
    have e2 : H1 = H := ht.symm.trans hB
    subst e2
    subst hw
    exact kk H1 locs1 ⟨hW.1, hW.2.1, hS1⟩ rfl
end GhRest2
