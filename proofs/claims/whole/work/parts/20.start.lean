/-! ===== THE CONSTRUCTORS, RUN: by evaluation ===== -/
def gh_Ma : gh_M := gh_mk gh_M0 (.inr 9)
set_option maxRecDepth 100000 in
theorem gh_c0 : (gh_ex gh_F 20 400 78 [.ref 0] gh_Ma).isSome = true := by decide +kernel
def gh_Mb : gh_M := ((gh_ex gh_F 20 400 78 [.ref 0] gh_Ma).get gh_c0).2
def gh_Mc : gh_M := gh_mk gh_Mb (.inr 10)
set_option maxRecDepth 100000 in
theorem gh_c1 : (gh_ex gh_F 20 800 112 [.ref 56] gh_Mc).isSome = true := by decide +kernel
/-- the memory when both objects are made -/
def gh_Md : gh_M := ((gh_ex gh_F 20 800 112 [.ref 56] gh_Mc).get gh_c1).2
set_option maxRecDepth 100000 in
theorem gh_Mb_len : gh_Mb.1.length = 56 := by decide +kernel
set_option maxRecDepth 100000 in
theorem gh_Md_shp : gh_Md.1 = gh_shp := by decide +kernel
set_option maxRecDepth 100000 in
theorem gh_c0_none : ((gh_ex gh_F 20 400 78 [.ref 0] gh_Ma).get gh_c0).1 = none := by decide +kernel
set_option maxRecDepth 100000 in
theorem gh_c1_none : ((gh_ex gh_F 20 800 112 [.ref 56] gh_Mc).get gh_c1).1 = none := by decide +kernel
theorem gh_some_of {o : Option (Option Value × gh_M)} (h : o.isSome = true) (hn : (o.get h).1 = none) : o = some (none, (o.get h).2) := by
  cases o with
  | none => cases h
  | some q =>
    obtain ⟨y, M⟩ := q
    have hn : y = none := hn
    subst hn
    rfl
theorem gh_Mx_b : gh_Mx 20 78 [.ref 0] gh_Ma none gh_Mb := ⟨400, gh_some_of gh_c0 gh_c0_none⟩
theorem gh_Mx_d : gh_Mx 20 112 [.ref 56] gh_Mc none gh_Md := ⟨800, gh_some_of gh_c1 gh_c1_none⟩
