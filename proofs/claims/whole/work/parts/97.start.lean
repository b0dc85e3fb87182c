/-! ===== the first state ===== -/
set_option maxRecDepth 100000 in
theorem gx_s1 : (List.range 8).all (fun b => decide (gh_S0.1 2 b = nI 0) && decide (gh_S0.1 58 b = nI 0) && decide (gh_S0.1 3 b = nI 0) && decide (gh_S0.1 59 b = nI 0) && decide (gh_S0.1 4 b = nI 100000) && decide (gh_S0.1 57 b = nI 100000) && decide (gh_S0.2.1 5 b = lN 0) && decide (gh_S0.2.1 60 b = lN 0)) = true := by decide +kernel
set_option maxRecDepth 100000 in
theorem gx_s2 : (List.range 100).all (fun k => decide (gh_S0.1 7 k = nI 0) && decide (gh_S0.1 61 k = nI 0) && decide (gh_S0.1 8 k = nI 0) && decide (gh_S0.1 62 k = nI 0) && decide (gh_S0.1 9 k = nI 0) && decide (gh_S0.1 63 k = nI 0) && decide (gh_S0.1 10 k = nI 0) && decide (gh_S0.2.1 64 k = lN 0)) = true := by decide +kernel
set_option maxRecDepth 100000 in
theorem gx_s3 : gh_S0.1 6 4 = nI 0 ∧ gh_S0.1 56 4 = nI 0 ∧ gh_S0.2.1 56 16 = gh_S0.2.1 0 10 ∧ gh_S0.2.1 56 17 = gh_S0.2.1 0 11 ∧ gh_S0.2.1 56 18 = gh_S0.2.1 0 12 := by decide +kernel
set_option maxRecDepth 100000 in
theorem gx_s4 : gh_S0.1 11 7 = nI 0 ∧ gh_S0.1 56 9 = nI 0 ∧ gh_S0.1 11 8 = nI 10 ∧ gh_S0.1 56 14 = nI 10 ∧ gh_S0.2.1 11 9 = lN 0 ∧ gh_S0.1 56 15 = nI 0 := by decide +kernel
set_option maxRecDepth 100000 in
theorem gx_s5 : (List.range 20).all (fun k => decide (gh_S0.1 12 k = nI 0) && decide (gh_S0.1 65 k = nI 0) && decide (gh_S0.1 13 k = nI 0) && decide (gh_S0.1 66 k = nI 0) && decide (gh_S0.1 14 k = nI 0) && decide (gh_S0.1 67 k = nI 0) && decide (gh_S0.1 15 k = gq_kd 1) && decide (gh_S0.1 68 k = gq_kd 1)) = true := by decide +kernel
set_option maxRecDepth 100000 in
theorem gx_s6 : gh_S0.1 18 7 = nI 0 ∧ gh_S0.1 56 19 = nI 0 ∧ gh_S0.1 18 8 = nI 10 ∧ gh_S0.1 56 23 = nI 10 ∧ gh_S0.1 18 9 = nI 5 ∧ gh_S0.1 56 24 = nI 5 ∧ gh_S0.1 18 11 = gq_B true ∧ gh_S0.1 18 10 = nI 0 := by decide +kernel
set_option maxRecDepth 100000 in
theorem gx_s7 : (List.range 7).all (fun k => decide (gh_S0.1 19 k = nI 0) && decide (gh_S0.1 69 k = nI 0) && decide (gh_S0.1 20 k = nI 0) && decide (gh_S0.1 70 k = nI 0) && decide (gh_S0.1 21 k = nI 0) && decide (gh_S0.1 71 k = nI 0)) = true := by decide +kernel
set_option maxRecDepth 100000 in
theorem gx_s8 : gh_S0.1 26 10 = nI 2 ∧ gh_S0.1 56 29 = nI 2 ∧ gh_S0.1 26 14 = gq_B true ∧ gh_S0.1 26 13 = nI 0 := by decide +kernel
set_option maxRecDepth 100000 in
theorem gx_s9 : (List.range 12).all (fun k => decide (gh_S0.1 27 k = gq_B true) && decide (gh_S0.1 72 k = gq_B true) && decide (gh_S0.1 28 k = nI 1) && decide (gh_S0.1 73 k = nI 1)) = true := by decide +kernel
set_option maxRecDepth 100000 in
theorem gx_s10 : (List.range 8).all (fun k => decide (gh_S0.1 29 k = nI 0) && decide (gh_S0.1 74 k = nI 0) && decide (gh_S0.1 30 k = nI 12) && decide (gh_S0.1 75 k = nI 12) && decide (gh_S0.1 36 k = nI 0)) = true := by decide +kernel
set_option maxRecDepth 100000 in
theorem gx_s11 : gh_S0.1 37 7 = gq_B false ∧ gh_S0.1 56 62 = gq_B false ∧ gh_S0.2.1 40 0 = 0 ∧ gh_S0.2.1 40 21 = 0 ∧ gh_S0.2.1 40 42 = 0 ∧ gh_S0.2.1 40 63 = 0 := by decide +kernel
set_option maxRecDepth 100000 in
theorem gx_s12 : gh_S0.1 43 1 = nI 0 ∧ gh_S0.1 56 31 = nI 0 ∧ gh_S0.1 45 0 = gq_B false ∧ gh_S0.1 56 38 = -1 ∧ gh_S0.1 56 39 = -1 ∧ gh_S0.1 46 4 = nI 0 ∧ gh_S0.1 56 45 = nI 0 := by decide +kernel
set_option maxRecDepth 100000 in
theorem gx_s13 : (List.range 200).all (fun k => decide (gh_S0.1 44 k = nI 0) && decide (gh_S0.1 76 k = nI 0)) = true := by decide +kernel
set_option maxRecDepth 100000 in
theorem gx_s14 : (List.range 4).all (fun k => decide (gh_S0.1 47 k = nI 0) && decide (gh_S0.1 80 k = nI 0)) = true := by decide +kernel
