/-! ===== THE WORLD OF A PURE MEMORY: its cells at addresses ad ===== -/
def gh_tv (ad : Nat → Nat) (v : Value) : Value := match v with
  | .ref c => .ref (ad c)
  | v => v
theorem gh_tv_cat (ad : Nat → Nat) (v : Value) : (gh_tv ad v).category = v.category := by cases v <;> rfl
def gh_fv (ad : Nat → Nat) (M : gh_M) (c k kd : Nat) : Value := match kd with
  | 1 => .long (M.2.2.1 c k)
  | 2 => va_rf ((M.2.2.2 c k).map ad)
  | _ => .int (M.2.1 c k)
def gh_fs (ad : Nat → Nat) (M : gh_M) (c ci : Nat) : List Value := (gh_ft ci).mapIdx (fun k kd => gh_fv ad M c k kd)
def gh_ae (M : gh_M) (c t n : Nat) : vp_A := match t with
  | 1 => (n, .inr (.inl (M.2.2.1 c)))
  | _ => (n, .inl (M.2.1 c))
def gh_ent (ad : Nat → Nat) (ca : Nat → ClassId) (M : gh_M) (c : Nat) (sh : gh_Sh) : Nat × va_E := match sh with
  | .inl q => (ad c, .inl (ca q.1, gh_ae M c q.1 q.2))
  | .inr ci => (ad c, .inr (ci, gh_fs ad M c ci))
def gh_ws (ad : Nat → Nat) (ca : Nat → ClassId) (M : gh_M) : va_W := M.1.mapIdx (fun c sh => gh_ent ad ca M c sh)
theorem gh_ws_get {ad : Nat → Nat} {ca : Nat → ClassId} {M : gh_M} {c : Nat} : (gh_ws ad ca M)[c]? = (M.1[c]?).map (fun sh => gh_ent ad ca M c sh) := by
  simp [gh_ws, List.getElem?_mapIdx]
theorem gh_ws_len {ad : Nat → Nat} {ca : Nat → ClassId} {M : gh_M} : (gh_ws ad ca M).length = M.1.length := by simp [gh_ws]
theorem gh_ent_fst {ad : Nat → Nat} {ca : Nat → ClassId} {M : gh_M} {c : Nat} {sh : gh_Sh} : (gh_ent ad ca M c sh).1 = ad c := by
  cases sh <;> rfl
/-- the references of a memory stand -/
def gh_wf (M : gh_M) : Prop := ∀ c k q, M.2.2.2 c k = some q → q < M.1.length
theorem gh_ent_congr {ad ad' : Nat → Nat} {ca : Nat → ClassId} {M M' : gh_M} {c : Nat} {sh : gh_Sh} (h0 : ad' c = ad c) (h1 : M'.2.1 c = M.2.1 c) (h2 : M'.2.2.1 c = M.2.2.1 c) (h3 : M'.2.2.2 c = M.2.2.2 c) (h4 : ∀ k q, M.2.2.2 c k = some q → ad' q = ad q) : gh_ent ad' ca M' c sh = gh_ent ad ca M c sh := by
  cases sh with
  | inl q =>
    have e : gh_ae M' c q.1 q.2 = gh_ae M c q.1 q.2 := by
      unfold gh_ae
      rw [h1, h2]
    simp only [gh_ent, h0, e]
  | inr ci =>
    have e : gh_fs ad' M' c ci = gh_fs ad M c ci := by
      unfold gh_fs
      congr 1
      funext k kd
      unfold gh_fv
      rw [h1, h2, h3]
      have : (M.2.2.2 c k).map ad' = (M.2.2.2 c k).map ad := by
        cases hq : M.2.2.2 c k with
        | none => rfl
        | some q => simp [h4 k q hq]
      rw [this]
    simp only [gh_ent, h0, e]
/-- one cell written -/
theorem gh_ws_set {ad : Nat → Nat} {ca : Nat → ClassId} {M M' : gh_M} {c : Nat} {sh : gh_Sh} (hs : M.1[c]? = some sh) (h0 : M'.1 = M.1) (h1 : ∀ d, d ≠ c → M'.2.1 d = M.2.1 d) (h2 : ∀ d, d ≠ c → M'.2.2.1 d = M.2.2.1 d) (h3 : ∀ d, d ≠ c → M'.2.2.2 d = M.2.2.2 d) :
    gh_ws ad ca M' = (gh_ws ad ca M).set c (gh_ent ad ca M' c sh) := by
  have hc : c < M.1.length := (List.getElem?_eq_some_iff.mp hs).1
  apply List.ext_getElem?
  intro j
  rw [gh_ws_get, h0]
  by_cases hj : j = c
  · subst hj
    rw [List.getElem?_set_self (by rw [gh_ws_len]; exact hc), hs]
    rfl
  · rw [List.getElem?_set_ne (fun q => hj q.symm), gh_ws_get]
    cases hq : M.1[j]? with
    | none => rfl
    | some sh' =>
      simp only [Option.map_some]
      rw [gh_ent_congr (M' := M') (M := M) rfl (h1 j hj) (h2 j hj) (h3 j hj) (fun _ _ _ => rfl)]
theorem gh_ws_mI {ad : Nat → Nat} {ca : Nat → ClassId} {M : gh_M} {c : Nat} {sh : gh_Sh} (f : Nat → Int32) (hs : M.1[c]? = some sh) : gh_ws ad ca (gh_mI M c f) = (gh_ws ad ca M).set c (gh_ent ad ca (gh_mI M c f) c sh) :=
  gh_ws_set hs rfl (fun _ h => gh_up_ne _ _ h) (fun _ _ => rfl) (fun _ _ => rfl)
theorem gh_ws_mL {ad : Nat → Nat} {ca : Nat → ClassId} {M : gh_M} {c : Nat} {sh : gh_Sh} (f : Nat → Int64) (hs : M.1[c]? = some sh) : gh_ws ad ca (gh_mL M c f) = (gh_ws ad ca M).set c (gh_ent ad ca (gh_mL M c f) c sh) :=
  gh_ws_set hs rfl (fun _ _ => rfl) (fun _ h => gh_up_ne _ _ h) (fun _ _ => rfl)
theorem gh_ws_mR {ad : Nat → Nat} {ca : Nat → ClassId} {M : gh_M} {c : Nat} {sh : gh_Sh} (f : Nat → Option Nat) (hs : M.1[c]? = some sh) : gh_ws ad ca (gh_mR M c f) = (gh_ws ad ca M).set c (gh_ent ad ca (gh_mR M c f) c sh) :=
  gh_ws_set hs rfl (fun _ _ => rfl) (fun _ _ => rfl) (fun _ h => gh_up_ne _ _ h)
/-- a cell made -/
theorem gh_ws_mk {ad : Nat → Nat} {ca : Nat → ClassId} {M : gh_M} (hw : gh_wf M) (sh : gh_Sh) (q : Nat) :
    gh_ws (va_up ad M.1.length q) ca (gh_mk M sh) = gh_ws ad ca M ++ [gh_ent (va_up ad M.1.length q) ca (gh_mk M sh) M.1.length sh] := by
  apply List.ext_getElem?
  intro j
  rw [gh_ws_get]
  show ((M.1 ++ [sh])[j]?).map _ = _
  by_cases hj : j < M.1.length
  · rw [List.getElem?_append_left hj, List.getElem?_append_left (by rw [gh_ws_len]; exact hj), gh_ws_get]
    have hne : j ≠ M.1.length := by omega
    cases hq : M.1[j]? with
    | none => rfl
    | some sh' =>
      simp only [Option.map_some]
      rw [gh_ent_congr (ad := ad) (ad' := va_up ad M.1.length q) (M' := gh_mk M sh) (M := M) (by simp [va_up, hne]) (gh_up_ne _ _ hne) (gh_up_ne _ _ hne) (gh_up_ne _ _ hne) (fun k r hr => by
        have := hw _ _ _ hr
        have hr2 : r ≠ M.1.length := by omega
        simp [va_up, hr2])]
  · by_cases hj2 : j = M.1.length
    · subst hj2
      rw [List.getElem?_append_right (Nat.le_refl _), List.getElem?_append_right (by rw [gh_ws_len]; exact Nat.le_refl _), gh_ws_len]
      simp
    · rw [List.getElem?_append_right (by omega), List.getElem?_append_right (by rw [gh_ws_len]; omega), gh_ws_len]
      have : j - M.1.length ≠ 0 := by omega
      cases hx : j - M.1.length with
      | zero => exact absurd hx this
      | succ n => rfl
theorem gh_wf_mI {M : gh_M} (h : gh_wf M) (c : Nat) (f : Nat → Int32) : gh_wf (gh_mI M c f) := h
theorem gh_wf_mL {M : gh_M} (h : gh_wf M) (c : Nat) (f : Nat → Int64) : gh_wf (gh_mL M c f) := h
theorem gh_wf_mR {M : gh_M} (h : gh_wf M) (c k a : Nat) (ha : a < M.1.length) : gh_wf (gh_mR M c (gh_upR (M.2.2.2 c) k (some a))) := by
  intro d j q hq
  show q < M.1.length
  have hq : gh_up M.2.2.2 c (gh_upR (M.2.2.2 c) k (some a)) d j = some q := hq
  by_cases hd : d = c
  · subst hd
    rw [gh_up_eq] at hq
    unfold gh_upR at hq
    split at hq
    · cases hq; exact ha
    · exact h _ _ _ hq
  · rw [gh_up_ne _ _ hd] at hq
    exact h _ _ _ hq
theorem gh_wf_mk {M : gh_M} (h : gh_wf M) (sh : gh_Sh) : gh_wf (gh_mk M sh) := by
  intro d j q hq
  show q < (M.1 ++ [sh]).length
  have hq : gh_up M.2.2.2 M.1.length (fun _ => none) d j = some q := hq
  rw [List.length_append]
  by_cases hd : d = M.1.length
  · subst hd
    rw [gh_up_eq] at hq
    cases hq
  · rw [gh_up_ne _ _ hd] at hq
    have := h _ _ _ hq
    omega
/-! locals -/
def gh_tl (ad : Nat → Nat) (lv : gh_L) : gh_L := lv.map (fun q => (q.1, gh_tv ad q.2))
theorem gh_lk_mem {lv : gh_L} {i : Nat} {v : Value} (h : gh_lk lv i = some v) : (i, v) ∈ lv := by
  induction lv with
  | nil => cases h
  | cons q t ih =>
    rw [gh_lk] at h
    cases hb : Nat.beq q.1 i with
    | true =>
      rw [hb] at h
      have e := Nat.eq_of_beq_eq_true hb
      cases h
      subst e
      exact List.mem_cons_self
    | false =>
      rw [hb] at h
      exact List.mem_cons_of_mem _ (ih h)
theorem gh_lk_slot {ad : Nat → Nat} {lv : gh_L} {i nL : Nat} {v : Value} {ls : Array Slot} (h : lv_has ls nL (gh_tl ad lv)) (hi : gh_lk lv i = some v) : ls[i]? = some (.val (gh_tv ad v)) :=
  h.2.2 (i, gh_tv ad v) (List.mem_map.mpr ⟨(i, v), gh_lk_mem hi, rfl⟩)
theorem gh_lk_place {ad : Nat → Nat} {lv : gh_L} {i : Nat} {v : Value} (hi : gh_lk lv i = some v) : ∃ k : Nat, (gh_tl ad lv)[k]? = some (i, gh_tv ad v) :=
  List.getElem?_of_mem (List.mem_map.mpr ⟨(i, v), gh_lk_mem hi, rfl⟩)
theorem gh_tl_s1 {ad : Nat → Nat} {lv : gh_L} {i : Nat} {v : Value} : (i, gh_tv ad v) :: (gh_tl ad lv).filter (fun q => !(q.1 == i) && !(q.1 + 1 == i && q.2.category == 2)) = gh_tl ad (gh_s1 lv i v) := by
  simp only [gh_tl, gh_s1, List.map_cons, List.filter_map]
  congr 3
  funext q
  simp only [Function.comp_apply, gh_tv_cat]
theorem gh_tl_s2 {ad : Nat → Nat} {lv : gh_L} {i : Nat} {v : Value} : (i, gh_tv ad v) :: (gh_tl ad lv).filter (fun q => !(q.1 == i) && (!(q.1 == i + 1) && !(q.1 + 1 == i && q.2.category == 2))) = gh_tl ad (gh_s2 lv i v) := by
  simp only [gh_tl, gh_s2, List.map_cons, List.filter_map]
  congr 3
  funext q
  simp only [Function.comp_apply, gh_tv_cat]
theorem gh_has_filter {ad : Nat → Nat} {lv : gh_L} {nL : Nat} {ls : Array Slot} (f : Nat × Value → Bool) (h : lv_has ls nL (gh_tl ad lv)) : lv_has ls nL (gh_tl ad (lv.filter f)) :=
  ⟨h.1, h.2.1, fun q hq => h.2.2 q (by
    obtain ⟨a, ha, rfl⟩ := List.mem_map.mp hq
    exact List.mem_map.mpr ⟨a, (List.mem_filter.mp ha).1, rfl⟩)⟩
/-- addresses that agree on what stands -/
def gh_ag (n : Nat) (ad ad' : Nat → Nat) : Prop := ∀ c, (c < n ∨ gh_SC ≤ c) → ad' c = ad c
theorem gh_ag_tv {n : Nat} {ad ad' : Nat → Nat} (h : gh_ag n ad ad') {v : Value} (hv : gh_vv n v = true) : gh_tv ad' v = gh_tv ad v := by
  cases v with
  | ref c =>
    have hv : (Nat.blt c n || Nat.ble gh_SC c) = true := hv
    rw [Bool.or_eq_true] at hv
    have : ad' c = ad c := h c (hv.imp (fun z => Nat.le_of_ble_eq_true z) (fun z => Nat.le_of_ble_eq_true z))
    simp [gh_tv, this]
  | _ => rfl
theorem gh_ag_st {n : Nat} {ad ad' : Nat → Nat} (h : gh_ag n ad ad') {st : List Value} (hv : st.all (gh_vv n) = true) : st.map (gh_tv ad') = st.map (gh_tv ad) := by
  apply List.map_congr_left
  intro v hm
  exact gh_ag_tv h (List.all_eq_true.mp hv v hm)
theorem gh_ag_tl {n : Nat} {ad ad' : Nat → Nat} (h : gh_ag n ad ad') (lv : gh_L) : gh_tl ad' (lv.filter (fun q => gh_vv n q.2)) = gh_tl ad (lv.filter (fun q => gh_vv n q.2)) := by
  apply List.map_congr_left
  intro q hm
  rw [gh_ag_tv h (List.mem_filter.mp hm).2]
theorem gh_ag_up {n : Nat} (ad : Nat → Nat) (q : Nat) (hn : n < gh_SC) : gh_ag n ad (va_up ad n q) := by
  intro c hc
  have : c ≠ n := by omega
  simp [va_up, this]
theorem gh_ag_tr {n n' : Nat} {ad ad' ad'' : Nat → Nat} (hn : n ≤ n') (h : gh_ag n ad ad') (h' : gh_ag n' ad' ad'') : gh_ag n ad ad'' := fun c hc => (h' c (hc.imp (fun z => by omega) id)).trans (h c hc)
/-- a field written, as the list of fields has it -/
theorem gh_fs_get {ad : Nat → Nat} {M : gh_M} {c ci k kd : Nat} (h : (gh_ft ci)[k]? = some kd) : (gh_fs ad M c ci)[k]? = some (gh_fv ad M c k kd) := by
  simp [gh_fs, List.getElem?_mapIdx, h]
theorem gh_fs_len {ad : Nat → Nat} {M : gh_M} {c ci : Nat} : (gh_fs ad M c ci).length = (gh_ft ci).length := by simp [gh_fs]
theorem gh_fs_set {ad : Nat → Nat} {M M' : gh_M} {c ci k kd : Nat} {v : Value} (hk : (gh_ft ci)[k]? = some kd) (hv : gh_fv ad M' c k kd = v) (hn : ∀ j e, (gh_ft ci)[j]? = some e → j ≠ k → gh_fv ad M' c j e = gh_fv ad M c j e) : (gh_fs ad M c ci).set k v = gh_fs ad M' c ci := by
  have hkl : k < (gh_ft ci).length := (List.getElem?_eq_some_iff.mp hk).1
  apply List.ext_getElem?
  intro j
  by_cases hj : j = k
  · subst hj
    rw [List.getElem?_set_self (by rw [gh_fs_len]; exact hkl), gh_fs_get hk, hv]
  · rw [List.getElem?_set_ne (fun q => hj q.symm)]
    cases he : (gh_ft ci)[j]? with
    | none => simp [gh_fs, List.getElem?_mapIdx, he]
    | some e => rw [gh_fs_get he, gh_fs_get he, hn j e he hj]
