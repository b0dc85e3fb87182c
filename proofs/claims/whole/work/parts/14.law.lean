/-! THE CLAIM OUT OF ONE WALK OF THE LAW'S BODY. Your part is whole_start (and what it stands on); all else here is the same for every law, but numbers. -/
def R_law : String := "GrainHouseLaw"
def lw_P (b : Addr) (xs : List Int32) (args : Array Value) (s : State) : Prop := args = #[.ref b] ∧ s.IntsAt b xs ∧ xs.length ≤ 3072 ∧ (Jvm.Cond.and given_1 narrow_1).before args s = true
def lw_Q (_ : Array Value) (s : State) (o : Outcome) (t : State) : Prop := o = .returned (some (.int 1)) ∧ Framed s o t [] 600000 7302250
def lw_Z (below : List Frame) (a : Array Value) (s : State) : State → Prop := fun t => ∃ o, t.status = .running ∧ Ended t below o ∧ lw_Q a s o t
/-- the law's own end, with 1 on the stack, nothing written that was there before, its room as the claim has it -/
theorem lw_ret {p : Program} {l : Launch} {e : Env} {s : State} {m : MethodId} {below : List Frame} {meth : Method} {c : Code} {b : Nat} (hx : p.tables.exec = Jvm.exec) (hb : c.code = code) (hr : meth.sig.returnType = ret) (hlocks : meth.locks = false) {pc : Nat} {H : Heap} {ls : Array Slot} (hdg : decode code pc = .ok (.ireturn, 1)) : W p l e room_1 s m #[Value.ref b] below meth c H [] 600000 7302250 (lw_Z below #[Value.ref b] s) (F0 m pc ls [.int 1]) := by
  intro T hT X
  obtain ⟨fs, hret, hrun, hended, hW, hframe⟩ := X.leave (v := some (.int 1)) (hlocks := hlocks) (fun h => by rw [hr] at h; cases h)
  have hmeth' : T.vm.method? m = some meth := X.method'
  refine ⟨T.setFrames fs, ?_, .returned (some (.int 1)), hrun, hended, rfl, ⟨_, rfl⟩, hW, hframe⟩
  jvm_step X.here [X.here.top, hx, hb, hdg, hmeth', hr, ret, narrow_b1]
  (try refine ⟨rfl, ?_⟩); (try refine ⟨rfl, ?_⟩)
  first | (intro acts; rw [hret _ acts rfl rfl rfl]) | rw [hret _ _ rfl rfl rfl]
  exact Steps.refl _
/-- what holds at the law's entry: the machine, the code, the tables' words (any of lw_tbl by 'hts w (by decide +kernel)'), the script of L ints xs at the cell b, what the Statement gives of the start (any of its parts by flat_of_before) -/
def lw_At (p : Program) (s : State) (m : MethodId) (meth : Method) (c : Code) (b L : Nat) (xs : Nat → Int32) : Prop :=
  p.tables.exec = Jvm.exec ∧ c.code = code ∧ meth.sig.returnType = ret ∧ c.maxLocals = 4 ∧ s.vm.findClass R_law = some m.cls ∧ (∀ w ∈ lw_tbl, w.before #[Value.ref b] s = true) ∧ va_X b L xs s s.heap ∧ b < s.heap.size ∧ meth.locks = false ∧ (Jvm.Cond.and given_1 narrow_1).before #[Value.ref b] s = true

/-! ===== THE LAW OUT OF ONE RUN OF THE PURE MACHINE ===== -/
def gh_M0 : gh_M := ([], fun _ _ => 0, fun _ _ => 0, fun _ _ => none)
/-- what is left to show: the pure machine's run of the law answers 1 -/
def gh_goal (L : Nat) (xs : Nat → Int32) : Prop := ∃ n W', gh_run (gh_ex gh_F 60 n) fL_law 600000 7302250 (some (L, xs)) true false n (0, [(0, .ref gh_SC)], [], (gh_M0, 0, 0)) = some (some (.int 1), W')
def gh_tm (i : Nat) : Term := match i with
  | 0 => .string "GrainHouse$Reader" 102
  | _ => .string "GrainHouse$Reader" 112
theorem gh_lt2 {P : Nat → Prop} (h0 : P 0) (h1 : P 1) : ∀ i, i < 2 → P i := by
  intro i hi
  rcases (show i = 0 ∨ i = 1 by omega) with rfl | rfl
  · exact h0
  · exact h1
abbrev gh_flat (args : Array Value) (s : State) : Prop := ∀ c ∈ flatC (Jvm.Cond.and given_1 narrow_1), c.before args s = true

theorem gh_lt4 {P : Nat → Prop} (h0 : P 0) (h1 : P 1) (h2 : P 2) (h3 : P 3) : ∀ i, i < 4 → P i := by
  intro i hi
  rcases (show i = 0 ∨ i = 1 ∨ i = 2 ∨ i = 3 by omega) with rfl | rfl | rfl | rfl
  · exact h0
  · exact h1
  · exact h2
  · exact h3
theorem gh_lt5 {P : Nat → Prop} (h0 : P 0) (h1 : P 1) (h2 : P 2) (h3 : P 3) (h4 : P 4) : ∀ i, i < 5 → P i := by
  intro i hi
  rcases (show i = 0 ∨ i = 1 ∨ i = 2 ∨ i = 3 ∨ i = 4 by omega) with rfl | rfl | rfl | rfl | rfl
  · exact h0
  · exact h1
  · exact h2
  · exact h3
  · exact h4
set_option maxRecDepth 100000 in
theorem gh_strs {args : Array Value} {s : State} {A : Nat → Prop} (hs : gh_flat args s) (hA : ∀ a : Nat, a < s.heap.size → ¬ A a) : ∃ adK adV : Nat → Nat, vk_S 2 gh_sl gh_sb adK adV A s s.heap ∧ ∀ i : Nat, i < 2 → (gh_tm i).eval args s none [] s = some (.ref (adK i)) := by
  refine vk_Sof (tm := gh_tm) gh_sl_lt ?_ ?_ ?_ ?_ ?_ ?_ hA
  · exact gh_lt2 (hs _ (by decide +kernel)) (hs _ (by decide +kernel))
  · exact gh_lt2 (hs _ (by decide +kernel)) (hs _ (by decide +kernel))
  · exact gh_lt2 (hs _ (by decide +kernel)) (hs _ (by decide +kernel))
  · exact gh_lt2 (hs _ (by decide +kernel)) (hs _ (by decide +kernel))
  · exact gh_lt2 (gh_lt4 (hs _ (by decide +kernel)) (hs _ (by decide +kernel)) (hs _ (by decide +kernel)) (hs _ (by decide +kernel))) (gh_lt5 (hs _ (by decide +kernel)) (hs _ (by decide +kernel)) (hs _ (by decide +kernel)) (hs _ (by decide +kernel)) (hs _ (by decide +kernel)))
  · have h01 : (Jvm.Cond.not (Jvm.Cond.eq (gh_tm 0) (gh_tm 1))).before args s = true := hs _ (by decide +kernel)
    intro i j hi hj hne
    rcases (show (i = 0 ∧ j = 1) ∨ (i = 1 ∧ j = 0) by omega) with ⟨rfl, rfl⟩ | ⟨rfl, rfl⟩
    · exact Or.inl h01
    · exact Or.inr h01
set_option maxRecDepth 100000 in
theorem gh_Js {args : Array Value} {s : State} {A : Nat → Prop} (hs : gh_flat args s) (hts : ∀ w ∈ lw_tbl, w.before args s = true) (hA : ∀ a : Nat, a < s.heap.size → ¬ A a) : ∃ adK adV : Nat → Nat, gh_J adK adV A s s.heap := by
  obtain ⟨adK, adV, h1, h2⟩ := gh_strs hs hA
  refine ⟨adK, adV, h1, ?_, ?_, ?_, ?_⟩
  · exact va_Zof (args := args) (hts _ (List.mem_of_getElem? (i := 805) (by decide +kernel))) (hts _ (List.mem_of_getElem? (i := 70) (by decide +kernel))) (va_eqt (hs _ (by decide +kernel))) hA
  · exact va_Zqof (args := args) (hts _ (List.mem_of_getElem? (i := 821) (by decide +kernel))) (hts _ (List.mem_of_getElem? (i := 72) (by decide +kernel))) (hs _ (by decide +kernel)) hA
  · exact vk_R.of (A := args) (hts _ (List.mem_of_getElem? (i := 791) (by decide +kernel))) (h2 0 (by decide))
  · exact vk_R.of (A := args) (hts _ (List.mem_of_getElem? (i := 848) (by decide +kernel))) (h2 1 (by decide))
theorem gh_Ks {args : Array Value} {s : State} (hts : ∀ w ∈ gh_tbl, w.before args s = true) : ∃ (D : va_G) (ca : Nat → ClassId), va_K D vwCl (gh_tys ca) s := by
  have h1 : ∀ u : Nat, ∃ q : ClassId × (Nat → Nat), u < 11 → u_Kn s (gh_Rn u) (gh_Tn u) (gh_ft u).length q.1 q.2 := by
    intro u
    by_cases hu : u < 11
    · obtain ⟨cC, iS, h⟩ := u_known (C := gh_Rn u) (T := gh_Tn u) (N := (gh_ft u).length) hts (gh_cl u hu).2.1 (hts _ (gh_w_in u hu).1)
      exact ⟨(cC, iS), fun _ => h⟩
    · exact ⟨(0, fun _ => 0), fun h => absurd h hu⟩
  have h2 : ∀ t : Nat, ∃ q : ClassId, t ≤ 3 → ArrOfT s q (gh_ty t) ∧ va_RA s q (gh_ty t) := by
    intro t
    by_cases ht : t ≤ 3
    · obtain ⟨cA, kA, comp, a1, a2, a3⟩ := Cond.arrayClass_spec (hts _ (gh_w_ac t ht))
      refine ⟨cA, fun _ => ⟨fun n z => ⟨fun k h => (by cases h), kA, a2, comp, a3⟩, ?_⟩⟩
      rcases (show t = 0 ∨ t = 1 ∨ t = 2 ∨ t = 3 by omega) with rfl | rfl | rfl | rfl <;> exact a1
    · exact ⟨0, fun h => absurd h ht⟩
  obtain ⟨f, hf⟩ := Classical.axiomOfChoice h1
  obtain ⟨ca, hca⟩ := Classical.axiomOfChoice h2
  refine ⟨(fun u => (f u).1, fun u => (f u).2), ca, fun k q hq => ?_, fun k q hq => ?_⟩
  · have hk : k < 11 := (List.getElem?_eq_some_iff.mp hq).1
    rw [(gh_cl k hk).1] at hq
    cases hq
    exact hf k hk
  · have hk : k ≤ 3 := Nat.le_of_lt_succ (List.getElem?_eq_some_iff.mp hq).1
    rw [gh_tys_get k hk] at hq
    cases hq
    exact hca k hk
def gh_ad0 (b : Nat) (adK : Nat → Nat) (c : Nat) : Nat := if c = gh_SC then b else if c = gh_SC + 1 then adK 0 else adK 1
set_option maxRecDepth 100000 in
theorem whole_start_of {p : Program} {e : Env} {s : State} {m : MethodId} {below : List Frame} {meth : Method} {c : Code} (l : Launch) {b L : Nat} {xs : Nat → Int32} (hg : gh_goal L xs) (C0 : lw_At p s m meth c b L xs) : W p l e room_1 s m #[Value.ref b] below meth c s.heap [] 0 0 (lw_Z below #[Value.ref b] s) (entryFrame m ([Value.ref b] : List Value).toArray 4) := by
  obtain ⟨hx, hb, hr, hml, hown, hts, hX, hbl, hlocks, hgv⟩ := C0
  obtain ⟨n, W', hrun⟩ := hg
  have hA : ∀ q : Nat, s.heap.size ≤ q → (fun q : Nat => s.heap.size ≤ q) q := fun _ h => h
  have hnA : ∀ a : Nat, a < s.heap.size → ¬ (fun q : Nat => s.heap.size ≤ q) a := fun a h => Nat.not_le.mpr h
  have htg : ∀ w ∈ gh_tbl, w.before #[Value.ref b] s = true := fun w hw => hts w (List.mem_filter.mp hw).1
  obtain ⟨D, ca, hK⟩ := gh_Ks htg
  obtain ⟨adK, adV, hJ⟩ := gh_Js (A := fun q : Nat => s.heap.size ≤ q) (flat_of_before _ hgv) hts hnA
  have hXs : gh_X D ca s := ⟨hK, fun q hq => va_Nw.of rfl (hts _ (gh_mnt_ok q hq))⟩
  have hC : gh_C p s m #[Value.ref b] c code 4 11 D ca adK adV (fun q : Nat => s.heap.size ≤ q) := ⟨hx, hb, hml, hown, htg, hXs, hA, hJ⟩
  have hl := lv_entry ([.ref b]) (n := 4) (Nat.le_of_ble_eq_true rfl)
  rw [lg_entry_eq]
  have hl : lv_has _ 4 (gh_tl (gh_ad0 b adK) [(0, .ref gh_SC)]) := hl
  have hsc : gh_Sc (some (L, xs)) (gh_ad0 b adK gh_SC) (fun q : Nat => s.heap.size ≤ q) s := by
    intro L' xs' q
    cases q
    exact ⟨hX, hbl, Nat.not_le.mpr hbl⟩
  have hP0 : va_P D vwCl (gh_ws (gh_ad0 b adK) ca gh_M0) s.heap := fun k q h => by
    have h : ([] : va_W)[k]? = some q := h
    simp at h
  have hD0 : va_D (fun q : Nat => s.heap.size ≤ q) (gh_ws (gh_ad0 b adK) ca gh_M0) := ⟨fun i j p q h => by
    have h : ([] : va_W)[i]? = some p := h
    simp at h, fun k q h => by
    have h : ([] : va_W)[k]? = some q := h
    simp at h⟩
  refine gh_snd_run (R := room_1) (rt := some .boolean) (d := 60) hC okL_law_all (fun q => by cases q) ⟨by decide, by decide, rfl, rfl⟩ (gh_snd_ex gh_hF 60 n) (gh_ex_kp gh_F 60 n) (gh_ad0 b adK) 0 hsc ⟨rfl, rfl⟩ (some (.int 1), W') ?_ n 0 [(0, .ref gh_SC)] [] (gh_M0, 0, 0) (gh_ad0 b adK) s.heap [] _ hrun hl ⟨hP0, hD0, va_S.rf⟩ (fun c k q h => by cases h) (fun _ _ => rfl) (fun _ => rfl) (Nat.zero_le _) (Nat.zero_le _) (Nat.zero_le _)
  intro ad H locs pc ls hW hag h0 c1 c2 hcs
  rcases hcs with ⟨y, hd, hrt, hy, hz⟩ | ⟨y, hd, hrt, hy⟩ | ⟨hd, hrt, hy⟩
  · refine va_forget (fun q hq => hW.2.2.2.2 q hq) ?_
    refine W.widen (k := 600000) (n := 7302250) c1 c2 ?_
    exact lw_ret hx hb hr hlocks hd
  · cases hrt
  · cases hrt
