def gh_fl : List (Nat → Option gh_E) := [fX0_init, fX0_has, fX0_canTake, fX0_canPut, fX0_part, fX0_take, fX0_put, fX0_moist, fX0_allGrams, fX1_init, fX1_choose, fX1_best, fX1_reckon, fX1_tryAll, fX2_init, fX2_setHour, fX2_setPower, fX2_setNeed, fX2_cost, fX2_paid, fX2_cheapest, fX2_addHour, fX2_reachBy, fX2_reach, fX2_reachFrom, fX2_shift, fX2_makeFirst, fX2_exchange, fX2_reachBySpare, fX3_init, fX3_isFull, fX3_add, fX3_value, fX3_valueOf, fX3_gramsOf, fX3_countOf, fX3_allGrams, fX4_init, fX4_add, fX4_find, fX4_costOf, fX4_spread, fX4_spreadOver, fX4_trace, fX4_firstLeg, fX4_goBy, fX5_init, fX5_clear, fX5_hasPrice, fX5_hasDock, fX5_isFull, fX5_addPrice, fX5_addDock, fX5_value, fX6_init, fX6_read, fX6_next, fX6_readNumber, fX6_isLetter, fX6_isDigit, fX6_isWord, fX6_faultHere, fX6_faultOfFirst, fX6_faultOfSecond, fX6_accept, fX7_init, fX7_add, fX7_sortIn, fX7_setPit, fX7_clear, fX7_waits, fX7_tryAll, fX7_takes, fX7_atLeast, fX7_setEmpty, fX8_init, fX8_hasRoom, fX8_put, fX9_init, fX9_holds, fX9_load, fX9_leg, fX9_cleaning, fX9_way, fX9_wayLeg, fX9_move, fX9_dry, fX9_ship, fX9_binOf, fX9_dryIn, fX9_truck, fX9_pit, fX9_rush, fX9_served, fX9_gone, fX9_hour, fX9_needs, fX9_fans, fX9_fansOf, fX9_blend, fX9_blended, fX9_feed, fX9_end, fX9_list, fX9_fault, fX9_worth, fX9_account, fX9_about, fX9_within, fX9_isBin, fX9_isKind, fX9_isFarmer, fX10_init, fX10_in, fX10_isBin, fX10_isKind, fX10_holds, fX10_canPut, fX10_puts, fX10_dryOf, fX10_moistOf, fX10_load, fX10_leg, fX10_cleaning, fX10_legCost, fX10_goes, fX10_lessens, fX10_isWay, fX10_way, fX10_nextLeg, fX10_wayLeg, fX10_goesBy, fX10_takes, fX10_move, fX10_dry, fX10_ship, fX10_binOf, fX10_dryIn, fX10_truck, fX10_pit, fX10_emptyAt, fX10_nextRow, fX10_swaps, fX10_rush, fX10_served, fX10_gone, fX10_hour, fX10_needs, fX10_may, fX10_reaches, fX10_walks, fX10_turns, fX10_plans, fX10_fans, fX10_fansOf, fX10_blends, fX10_isThere, fX10_blend, fX10_blended, fX10_put, fX10_feed, fX10_end, fX10_isLetter, fX10_wordOf, fX10_next, fX10_errs, fX10_wasDock, fX10_number, fX10_clause, fX10_list, fX10_fault, fX10_worthOf, fX10_worth, fX10_account, fX10_about]
def gh_F (z : Nat) : Nat → Option gh_E := gh_fl.getD z (fun _ => none)
def gh_okF (z : Nat) : Prop := ∀ pc i len u v w x, gh_F z pc = some (i, len, u, v, w, x) → decode (gh_cn z) pc = .ok (i, len) ∧ gh_ck (gh_oc z) (gh_ln z) (gh_rn z) pc i len u v w x = true
theorem gh_okF0 : gh_okF 0 := gh_okp_of okX0_init gh_lim_out
theorem gh_okF1 : gh_okF 1 := gh_okp_of okX0_has gh_lim_out
theorem gh_okF2 : gh_okF 2 := gh_okp_of okX0_canTake gh_lim_out
theorem gh_okF3 : gh_okF 3 := gh_okp_of okX0_canPut gh_lim_out
theorem gh_okF4 : gh_okF 4 := gh_okp_of okX0_part gh_lim_out
theorem gh_okF5 : gh_okF 5 := gh_okp_of okX0_take gh_lim_out
theorem gh_okF6 : gh_okF 6 := gh_okp_of okX0_put gh_lim_out
theorem gh_okF7 : gh_okF 7 := gh_okp_of okX0_moist gh_lim_out
theorem gh_okF8 : gh_okF 8 := gh_okp_of okX0_allGrams gh_lim_out
theorem gh_okF9 : gh_okF 9 := gh_okp_of okX1_init gh_lim_out
theorem gh_okF10 : gh_okF 10 := gh_okp_of okX1_choose gh_lim_out
theorem gh_okF11 : gh_okF 11 := gh_okp_of okX1_best gh_lim_out
theorem gh_okF12 : gh_okF 12 := gh_okp_of okX1_reckon gh_lim_out
theorem gh_okF13 : gh_okF 13 := gh_okp_of okX1_tryAll gh_lim_out
theorem gh_okF14 : gh_okF 14 := gh_okp_of okX2_init gh_lim_out
theorem gh_okF15 : gh_okF 15 := gh_okp_of okX2_setHour gh_lim_out
theorem gh_okF16 : gh_okF 16 := gh_okp_of okX2_setPower gh_lim_out
theorem gh_okF17 : gh_okF 17 := gh_okp_of okX2_setNeed gh_lim_out
theorem gh_okF18 : gh_okF 18 := gh_okp_of okX2_cost gh_lim_out
theorem gh_okF19 : gh_okF 19 := gh_okp_of okX2_paid gh_lim_out
theorem gh_okF20 : gh_okF 20 := gh_okp_of okX2_cheapest gh_lim_out
theorem gh_okF21 : gh_okF 21 := gh_okp_of okX2_addHour gh_lim_out
theorem gh_okF22 : gh_okF 22 := gh_okp_of okX2_reachBy gh_lim_out
theorem gh_okF23 : gh_okF 23 := gh_okp_of okX2_reach gh_lim_out
theorem gh_okF24 : gh_okF 24 := gh_okp_of okX2_reachFrom gh_lim_out
theorem gh_okF25 : gh_okF 25 := gh_okp_of okX2_shift gh_lim_out
theorem gh_okF26 : gh_okF 26 := gh_okp_of okX2_makeFirst gh_lim_out
theorem gh_okF27 : gh_okF 27 := gh_okp_of okX2_exchange gh_lim_out
theorem gh_okF28 : gh_okF 28 := gh_okp_of okX2_reachBySpare gh_lim_out
theorem gh_okF29 : gh_okF 29 := gh_okp_of okX3_init gh_lim_out
theorem gh_okF30 : gh_okF 30 := gh_okp_of okX3_isFull gh_lim_out
theorem gh_okF31 : gh_okF 31 := gh_okp_of okX3_add gh_lim_out
theorem gh_okF32 : gh_okF 32 := gh_okp_of okX3_value gh_lim_out
theorem gh_okF33 : gh_okF 33 := gh_okp_of okX3_valueOf gh_lim_out
theorem gh_okF34 : gh_okF 34 := gh_okp_of okX3_gramsOf gh_lim_out
theorem gh_okF35 : gh_okF 35 := gh_okp_of okX3_countOf gh_lim_out
theorem gh_okF36 : gh_okF 36 := gh_okp_of okX3_allGrams gh_lim_out
theorem gh_okF37 : gh_okF 37 := gh_okp_of okX4_init gh_lim_out
theorem gh_okF38 : gh_okF 38 := gh_okp_of okX4_add gh_lim_out
theorem gh_okF39 : gh_okF 39 := gh_okp_of okX4_find gh_lim_out
theorem gh_okF40 : gh_okF 40 := gh_okp_of okX4_costOf gh_lim_out
theorem gh_okF41 : gh_okF 41 := gh_okp_of okX4_spread gh_lim_out
theorem gh_okF42 : gh_okF 42 := gh_okp_of okX4_spreadOver gh_lim_out
theorem gh_okF43 : gh_okF 43 := gh_okp_of okX4_trace gh_lim_out
theorem gh_okF44 : gh_okF 44 := gh_okp_of okX4_firstLeg gh_lim_out
theorem gh_okF45 : gh_okF 45 := gh_okp_of okX4_goBy gh_lim_out
theorem gh_okF46 : gh_okF 46 := gh_okp_of okX5_init gh_lim_out
theorem gh_okF47 : gh_okF 47 := gh_okp_of okX5_clear gh_lim_out
theorem gh_okF48 : gh_okF 48 := gh_okp_of okX5_hasPrice gh_lim_out
theorem gh_okF49 : gh_okF 49 := gh_okp_of okX5_hasDock gh_lim_out
theorem gh_okF50 : gh_okF 50 := gh_okp_of okX5_isFull gh_lim_out
theorem gh_okF51 : gh_okF 51 := gh_okp_of okX5_addPrice gh_lim_out
theorem gh_okF52 : gh_okF 52 := gh_okp_of okX5_addDock gh_lim_out
theorem gh_okF53 : gh_okF 53 := gh_okp_of okX5_value gh_lim_out
theorem gh_okF54 : gh_okF 54 := gh_okp_of okX6_init gh_lim_out
theorem gh_okF55 : gh_okF 55 := gh_okp_of okX6_read gh_lim_out
theorem gh_okF56 : gh_okF 56 := gh_okp_of okX6_next gh_lim_out
theorem gh_okF57 : gh_okF 57 := gh_okp_of okX6_readNumber gh_lim_out
theorem gh_okF58 : gh_okF 58 := gh_okp_of okX6_isLetter gh_lim_out
theorem gh_okF59 : gh_okF 59 := gh_okp_of okX6_isDigit gh_lim_out
theorem gh_okF60 : gh_okF 60 := gh_okp_of okX6_isWord gh_lim_out
theorem gh_okF61 : gh_okF 61 := gh_okp_of okX6_faultHere gh_lim_out
theorem gh_okF62 : gh_okF 62 := gh_okp_of okX6_faultOfFirst gh_lim_out
theorem gh_okF63 : gh_okF 63 := gh_okp_of okX6_faultOfSecond gh_lim_out
theorem gh_okF64 : gh_okF 64 := gh_okp_of okX6_accept gh_lim_out
theorem gh_okF65 : gh_okF 65 := gh_okp_of okX7_init gh_lim_out
theorem gh_okF66 : gh_okF 66 := gh_okp_of okX7_add gh_lim_out
theorem gh_okF67 : gh_okF 67 := gh_okp_of okX7_sortIn gh_lim_out
theorem gh_okF68 : gh_okF 68 := gh_okp_of okX7_setPit gh_lim_out
theorem gh_okF69 : gh_okF 69 := gh_okp_of okX7_clear gh_lim_out
theorem gh_okF70 : gh_okF 70 := gh_okp_of okX7_waits gh_lim_out
theorem gh_okF71 : gh_okF 71 := gh_okp_of okX7_tryAll gh_lim_out
theorem gh_okF72 : gh_okF 72 := gh_okp_of okX7_takes gh_lim_out
theorem gh_okF73 : gh_okF 73 := gh_okp_of okX7_atLeast gh_lim_out
theorem gh_okF74 : gh_okF 74 := gh_okp_of okX7_setEmpty gh_lim_out
theorem gh_okF75 : gh_okF 75 := gh_okp_of okX8_init gh_lim_out
theorem gh_okF76 : gh_okF 76 := gh_okp_of okX8_hasRoom gh_lim_out
theorem gh_okF77 : gh_okF 77 := gh_okp_of okX8_put gh_lim_out
theorem gh_okF78 : gh_okF 78 := gh_okp_of okX9_init gh_lim_out
theorem gh_okF79 : gh_okF 79 := gh_okp_of okX9_holds gh_lim_out
theorem gh_okF80 : gh_okF 80 := gh_okp_of okX9_load gh_lim_out
theorem gh_okF81 : gh_okF 81 := gh_okp_of okX9_leg gh_lim_out
theorem gh_okF82 : gh_okF 82 := gh_okp_of okX9_cleaning gh_lim_out
theorem gh_okF83 : gh_okF 83 := gh_okp_of okX9_way gh_lim_out
theorem gh_okF84 : gh_okF 84 := gh_okp_of okX9_wayLeg gh_lim_out
theorem gh_okF85 : gh_okF 85 := gh_okp_of okX9_move gh_lim_out
theorem gh_okF86 : gh_okF 86 := gh_okp_of okX9_dry gh_lim_out
theorem gh_okF87 : gh_okF 87 := gh_okp_of okX9_ship gh_lim_out
theorem gh_okF88 : gh_okF 88 := gh_okp_of okX9_binOf gh_lim_out
theorem gh_okF89 : gh_okF 89 := gh_okp_of okX9_dryIn gh_lim_out
theorem gh_okF90 : gh_okF 90 := gh_okp_of okX9_truck gh_lim_out
theorem gh_okF91 : gh_okF 91 := gh_okp_of okX9_pit gh_lim_out
theorem gh_okF92 : gh_okF 92 := gh_okp_of okX9_rush gh_lim_out
theorem gh_okF93 : gh_okF 93 := gh_okp_of okX9_served gh_lim_out
theorem gh_okF94 : gh_okF 94 := gh_okp_of okX9_gone gh_lim_out
theorem gh_okF95 : gh_okF 95 := gh_okp_of okX9_hour gh_lim_out
theorem gh_okF96 : gh_okF 96 := gh_okp_of okX9_needs gh_lim_out
theorem gh_okF97 : gh_okF 97 := gh_okp_of okX9_fans gh_lim_out
theorem gh_okF98 : gh_okF 98 := gh_okp_of okX9_fansOf gh_lim_out
theorem gh_okF99 : gh_okF 99 := gh_okp_of okX9_blend gh_lim_out
theorem gh_okF100 : gh_okF 100 := gh_okp_of okX9_blended gh_lim_out
theorem gh_okF101 : gh_okF 101 := gh_okp_of okX9_feed gh_lim_out
theorem gh_okF102 : gh_okF 102 := gh_okp_of okX9_end gh_lim_out
theorem gh_okF103 : gh_okF 103 := gh_okp_of okX9_list gh_lim_out
theorem gh_okF104 : gh_okF 104 := gh_okp_of okX9_fault gh_lim_out
theorem gh_okF105 : gh_okF 105 := gh_okp_of okX9_worth gh_lim_out
theorem gh_okF106 : gh_okF 106 := gh_okp_of okX9_account gh_lim_out
theorem gh_okF107 : gh_okF 107 := gh_okp_of okX9_about gh_lim_out
theorem gh_okF108 : gh_okF 108 := gh_okp_of okX9_within gh_lim_out
theorem gh_okF109 : gh_okF 109 := gh_okp_of okX9_isBin gh_lim_out
theorem gh_okF110 : gh_okF 110 := gh_okp_of okX9_isKind gh_lim_out
theorem gh_okF111 : gh_okF 111 := gh_okp_of okX9_isFarmer gh_lim_out
theorem gh_okF112 : gh_okF 112 := gh_okp_of okX10_init gh_lim_out
theorem gh_okF113 : gh_okF 113 := gh_okp_of okX10_in gh_lim_out
theorem gh_okF114 : gh_okF 114 := gh_okp_of okX10_isBin gh_lim_out
theorem gh_okF115 : gh_okF 115 := gh_okp_of okX10_isKind gh_lim_out
theorem gh_okF116 : gh_okF 116 := gh_okp_of okX10_holds gh_lim_out
theorem gh_okF117 : gh_okF 117 := gh_okp_of okX10_canPut gh_lim_out
theorem gh_okF118 : gh_okF 118 := gh_okp_of okX10_puts gh_lim_out
theorem gh_okF119 : gh_okF 119 := gh_okp_of okX10_dryOf gh_lim_out
theorem gh_okF120 : gh_okF 120 := gh_okp_of okX10_moistOf gh_lim_out
theorem gh_okF121 : gh_okF 121 := gh_okp_of okX10_load gh_lim_out
theorem gh_okF122 : gh_okF 122 := gh_okp_of okX10_leg gh_lim_out
theorem gh_okF123 : gh_okF 123 := gh_okp_of okX10_cleaning gh_lim_out
theorem gh_okF124 : gh_okF 124 := gh_okp_of okX10_legCost gh_lim_out
theorem gh_okF125 : gh_okF 125 := gh_okp_of okX10_goes gh_lim_out
theorem gh_okF126 : gh_okF 126 := gh_okp_of okX10_lessens gh_lim_out
theorem gh_okF127 : gh_okF 127 := gh_okp_of okX10_isWay gh_lim_out
theorem gh_okF128 : gh_okF 128 := gh_okp_of okX10_way gh_lim_out
theorem gh_okF129 : gh_okF 129 := gh_okp_of okX10_nextLeg gh_lim_out
theorem gh_okF130 : gh_okF 130 := gh_okp_of okX10_wayLeg gh_lim_out
theorem gh_okF131 : gh_okF 131 := gh_okp_of okX10_goesBy gh_lim_out
theorem gh_okF132 : gh_okF 132 := gh_okp_of okX10_takes gh_lim_out
theorem gh_okF133 : gh_okF 133 := gh_okp_of okX10_move gh_lim_out
theorem gh_okF134 : gh_okF 134 := gh_okp_of okX10_dry gh_lim_out
theorem gh_okF135 : gh_okF 135 := gh_okp_of okX10_ship gh_lim_out
theorem gh_okF136 : gh_okF 136 := gh_okp_of okX10_binOf gh_lim_out
theorem gh_okF137 : gh_okF 137 := gh_okp_of okX10_dryIn gh_lim_out
theorem gh_okF138 : gh_okF 138 := gh_okp_of okX10_truck gh_lim_out
theorem gh_okF139 : gh_okF 139 := gh_okp_of okX10_pit gh_lim_out
theorem gh_okF140 : gh_okF 140 := gh_okp_of okX10_emptyAt gh_lim_out
theorem gh_okF141 : gh_okF 141 := gh_okp_of okX10_nextRow gh_lim_out
theorem gh_okF142 : gh_okF 142 := gh_okp_of okX10_swaps gh_lim_out
theorem gh_okF143 : gh_okF 143 := gh_okp_of okX10_rush gh_lim_out
theorem gh_okF144 : gh_okF 144 := gh_okp_of okX10_served gh_lim_out
theorem gh_okF145 : gh_okF 145 := gh_okp_of okX10_gone gh_lim_out
theorem gh_okF146 : gh_okF 146 := gh_okp_of okX10_hour gh_lim_out
theorem gh_okF147 : gh_okF 147 := gh_okp_of okX10_needs gh_lim_out
theorem gh_okF148 : gh_okF 148 := gh_okp_of okX10_may gh_lim_out
theorem gh_okF149 : gh_okF 149 := gh_okp_of okX10_reaches gh_lim_out
theorem gh_okF150 : gh_okF 150 := gh_okp_of okX10_walks gh_lim_out
theorem gh_okF151 : gh_okF 151 := gh_okp_of okX10_turns gh_lim_out
theorem gh_okF152 : gh_okF 152 := gh_okp_of okX10_plans gh_lim_out
theorem gh_okF153 : gh_okF 153 := gh_okp_of okX10_fans gh_lim_out
theorem gh_okF154 : gh_okF 154 := gh_okp_of okX10_fansOf gh_lim_out
theorem gh_okF155 : gh_okF 155 := gh_okp_of okX10_blends gh_lim_out
theorem gh_okF156 : gh_okF 156 := gh_okp_of okX10_isThere gh_lim_out
theorem gh_okF157 : gh_okF 157 := gh_okp_of okX10_blend gh_lim_out
theorem gh_okF158 : gh_okF 158 := gh_okp_of okX10_blended gh_lim_out
theorem gh_okF159 : gh_okF 159 := gh_okp_of okX10_put gh_lim_out
theorem gh_okF160 : gh_okF 160 := gh_okp_of okX10_feed gh_lim_out
theorem gh_okF161 : gh_okF 161 := gh_okp_of okX10_end gh_lim_out
theorem gh_okF162 : gh_okF 162 := gh_okp_of okX10_isLetter gh_lim_out
theorem gh_okF163 : gh_okF 163 := gh_okp_of okX10_wordOf gh_lim_out
theorem gh_okF164 : gh_okF 164 := gh_okp_of okX10_next gh_lim_out
theorem gh_okF165 : gh_okF 165 := gh_okp_of okX10_errs gh_lim_out
theorem gh_okF166 : gh_okF 166 := gh_okp_of okX10_wasDock gh_lim_out
theorem gh_okF167 : gh_okF 167 := gh_okp_of okX10_number gh_lim_out
theorem gh_okF168 : gh_okF 168 := gh_okp_of okX10_clause gh_lim_out
theorem gh_okF169 : gh_okF 169 := gh_okp_of okX10_list gh_lim_out
theorem gh_okF170 : gh_okF 170 := gh_okp_of okX10_fault gh_lim_out
theorem gh_okF171 : gh_okF 171 := gh_okp_of okX10_worthOf gh_lim_out
theorem gh_okF172 : gh_okF 172 := gh_okp_of okX10_worth gh_lim_out
theorem gh_okF173 : gh_okF 173 := gh_okp_of okX10_account gh_lim_out
theorem gh_okF174 : gh_okF 174 := gh_okp_of okX10_about gh_lim_out
theorem gh_hF : ∀ z, z < gh_NZ → gh_okF z := by
  intro z hz
  have hz : z < 175 := hz
  rcases Nat.lt_or_ge z 87 with h | h
  · rcases Nat.lt_or_ge z 43 with h | h
    · rcases Nat.lt_or_ge z 21 with h | h
      · rcases Nat.lt_or_ge z 10 with h | h
        · rcases Nat.lt_or_ge z 5 with h | h
          · rcases Nat.lt_or_ge z 2 with h | h
            · rcases Nat.lt_or_ge z 1 with h | h
              · have e : z = 0 := by omega
                subst e
                exact gh_okF0
              · have e : z = 1 := by omega
                subst e
                exact gh_okF1
            · rcases Nat.lt_or_ge z 3 with h | h
              · have e : z = 2 := by omega
                subst e
                exact gh_okF2
              · rcases Nat.lt_or_ge z 4 with h | h
                · have e : z = 3 := by omega
                  subst e
                  exact gh_okF3
                · have e : z = 4 := by omega
                  subst e
                  exact gh_okF4
          · rcases Nat.lt_or_ge z 7 with h | h
            · rcases Nat.lt_or_ge z 6 with h | h
              · have e : z = 5 := by omega
                subst e
                exact gh_okF5
              · have e : z = 6 := by omega
                subst e
                exact gh_okF6
            · rcases Nat.lt_or_ge z 8 with h | h
              · have e : z = 7 := by omega
                subst e
                exact gh_okF7
              · rcases Nat.lt_or_ge z 9 with h | h
                · have e : z = 8 := by omega
                  subst e
                  exact gh_okF8
                · have e : z = 9 := by omega
                  subst e
                  exact gh_okF9
        · rcases Nat.lt_or_ge z 15 with h | h
          · rcases Nat.lt_or_ge z 12 with h | h
            · rcases Nat.lt_or_ge z 11 with h | h
              · have e : z = 10 := by omega
                subst e
                exact gh_okF10
              · have e : z = 11 := by omega
                subst e
                exact gh_okF11
            · rcases Nat.lt_or_ge z 13 with h | h
              · have e : z = 12 := by omega
                subst e
                exact gh_okF12
              · rcases Nat.lt_or_ge z 14 with h | h
                · have e : z = 13 := by omega
                  subst e
                  exact gh_okF13
                · have e : z = 14 := by omega
                  subst e
                  exact gh_okF14
          · rcases Nat.lt_or_ge z 18 with h | h
            · rcases Nat.lt_or_ge z 16 with h | h
              · have e : z = 15 := by omega
                subst e
                exact gh_okF15
              · rcases Nat.lt_or_ge z 17 with h | h
                · have e : z = 16 := by omega
                  subst e
                  exact gh_okF16
                · have e : z = 17 := by omega
                  subst e
                  exact gh_okF17
            · rcases Nat.lt_or_ge z 19 with h | h
              · have e : z = 18 := by omega
                subst e
                exact gh_okF18
              · rcases Nat.lt_or_ge z 20 with h | h
                · have e : z = 19 := by omega
                  subst e
                  exact gh_okF19
                · have e : z = 20 := by omega
                  subst e
                  exact gh_okF20
      · rcases Nat.lt_or_ge z 32 with h | h
        · rcases Nat.lt_or_ge z 26 with h | h
          · rcases Nat.lt_or_ge z 23 with h | h
            · rcases Nat.lt_or_ge z 22 with h | h
              · have e : z = 21 := by omega
                subst e
                exact gh_okF21
              · have e : z = 22 := by omega
                subst e
                exact gh_okF22
            · rcases Nat.lt_or_ge z 24 with h | h
              · have e : z = 23 := by omega
                subst e
                exact gh_okF23
              · rcases Nat.lt_or_ge z 25 with h | h
                · have e : z = 24 := by omega
                  subst e
                  exact gh_okF24
                · have e : z = 25 := by omega
                  subst e
                  exact gh_okF25
          · rcases Nat.lt_or_ge z 29 with h | h
            · rcases Nat.lt_or_ge z 27 with h | h
              · have e : z = 26 := by omega
                subst e
                exact gh_okF26
              · rcases Nat.lt_or_ge z 28 with h | h
                · have e : z = 27 := by omega
                  subst e
                  exact gh_okF27
                · have e : z = 28 := by omega
                  subst e
                  exact gh_okF28
            · rcases Nat.lt_or_ge z 30 with h | h
              · have e : z = 29 := by omega
                subst e
                exact gh_okF29
              · rcases Nat.lt_or_ge z 31 with h | h
                · have e : z = 30 := by omega
                  subst e
                  exact gh_okF30
                · have e : z = 31 := by omega
                  subst e
                  exact gh_okF31
        · rcases Nat.lt_or_ge z 37 with h | h
          · rcases Nat.lt_or_ge z 34 with h | h
            · rcases Nat.lt_or_ge z 33 with h | h
              · have e : z = 32 := by omega
                subst e
                exact gh_okF32
              · have e : z = 33 := by omega
                subst e
                exact gh_okF33
            · rcases Nat.lt_or_ge z 35 with h | h
              · have e : z = 34 := by omega
                subst e
                exact gh_okF34
              · rcases Nat.lt_or_ge z 36 with h | h
                · have e : z = 35 := by omega
                  subst e
                  exact gh_okF35
                · have e : z = 36 := by omega
                  subst e
                  exact gh_okF36
          · rcases Nat.lt_or_ge z 40 with h | h
            · rcases Nat.lt_or_ge z 38 with h | h
              · have e : z = 37 := by omega
                subst e
                exact gh_okF37
              · rcases Nat.lt_or_ge z 39 with h | h
                · have e : z = 38 := by omega
                  subst e
                  exact gh_okF38
                · have e : z = 39 := by omega
                  subst e
                  exact gh_okF39
            · rcases Nat.lt_or_ge z 41 with h | h
              · have e : z = 40 := by omega
                subst e
                exact gh_okF40
              · rcases Nat.lt_or_ge z 42 with h | h
                · have e : z = 41 := by omega
                  subst e
                  exact gh_okF41
                · have e : z = 42 := by omega
                  subst e
                  exact gh_okF42
    · rcases Nat.lt_or_ge z 65 with h | h
      · rcases Nat.lt_or_ge z 54 with h | h
        · rcases Nat.lt_or_ge z 48 with h | h
          · rcases Nat.lt_or_ge z 45 with h | h
            · rcases Nat.lt_or_ge z 44 with h | h
              · have e : z = 43 := by omega
                subst e
                exact gh_okF43
              · have e : z = 44 := by omega
                subst e
                exact gh_okF44
            · rcases Nat.lt_or_ge z 46 with h | h
              · have e : z = 45 := by omega
                subst e
                exact gh_okF45
              · rcases Nat.lt_or_ge z 47 with h | h
                · have e : z = 46 := by omega
                  subst e
                  exact gh_okF46
                · have e : z = 47 := by omega
                  subst e
                  exact gh_okF47
          · rcases Nat.lt_or_ge z 51 with h | h
            · rcases Nat.lt_or_ge z 49 with h | h
              · have e : z = 48 := by omega
                subst e
                exact gh_okF48
              · rcases Nat.lt_or_ge z 50 with h | h
                · have e : z = 49 := by omega
                  subst e
                  exact gh_okF49
                · have e : z = 50 := by omega
                  subst e
                  exact gh_okF50
            · rcases Nat.lt_or_ge z 52 with h | h
              · have e : z = 51 := by omega
                subst e
                exact gh_okF51
              · rcases Nat.lt_or_ge z 53 with h | h
                · have e : z = 52 := by omega
                  subst e
                  exact gh_okF52
                · have e : z = 53 := by omega
                  subst e
                  exact gh_okF53
        · rcases Nat.lt_or_ge z 59 with h | h
          · rcases Nat.lt_or_ge z 56 with h | h
            · rcases Nat.lt_or_ge z 55 with h | h
              · have e : z = 54 := by omega
                subst e
                exact gh_okF54
              · have e : z = 55 := by omega
                subst e
                exact gh_okF55
            · rcases Nat.lt_or_ge z 57 with h | h
              · have e : z = 56 := by omega
                subst e
                exact gh_okF56
              · rcases Nat.lt_or_ge z 58 with h | h
                · have e : z = 57 := by omega
                  subst e
                  exact gh_okF57
                · have e : z = 58 := by omega
                  subst e
                  exact gh_okF58
          · rcases Nat.lt_or_ge z 62 with h | h
            · rcases Nat.lt_or_ge z 60 with h | h
              · have e : z = 59 := by omega
                subst e
                exact gh_okF59
              · rcases Nat.lt_or_ge z 61 with h | h
                · have e : z = 60 := by omega
                  subst e
                  exact gh_okF60
                · have e : z = 61 := by omega
                  subst e
                  exact gh_okF61
            · rcases Nat.lt_or_ge z 63 with h | h
              · have e : z = 62 := by omega
                subst e
                exact gh_okF62
              · rcases Nat.lt_or_ge z 64 with h | h
                · have e : z = 63 := by omega
                  subst e
                  exact gh_okF63
                · have e : z = 64 := by omega
                  subst e
                  exact gh_okF64
      · rcases Nat.lt_or_ge z 76 with h | h
        · rcases Nat.lt_or_ge z 70 with h | h
          · rcases Nat.lt_or_ge z 67 with h | h
            · rcases Nat.lt_or_ge z 66 with h | h
              · have e : z = 65 := by omega
                subst e
                exact gh_okF65
              · have e : z = 66 := by omega
                subst e
                exact gh_okF66
            · rcases Nat.lt_or_ge z 68 with h | h
              · have e : z = 67 := by omega
                subst e
                exact gh_okF67
              · rcases Nat.lt_or_ge z 69 with h | h
                · have e : z = 68 := by omega
                  subst e
                  exact gh_okF68
                · have e : z = 69 := by omega
                  subst e
                  exact gh_okF69
          · rcases Nat.lt_or_ge z 73 with h | h
            · rcases Nat.lt_or_ge z 71 with h | h
              · have e : z = 70 := by omega
                subst e
                exact gh_okF70
              · rcases Nat.lt_or_ge z 72 with h | h
                · have e : z = 71 := by omega
                  subst e
                  exact gh_okF71
                · have e : z = 72 := by omega
                  subst e
                  exact gh_okF72
            · rcases Nat.lt_or_ge z 74 with h | h
              · have e : z = 73 := by omega
                subst e
                exact gh_okF73
              · rcases Nat.lt_or_ge z 75 with h | h
                · have e : z = 74 := by omega
                  subst e
                  exact gh_okF74
                · have e : z = 75 := by omega
                  subst e
                  exact gh_okF75
        · rcases Nat.lt_or_ge z 81 with h | h
          · rcases Nat.lt_or_ge z 78 with h | h
            · rcases Nat.lt_or_ge z 77 with h | h
              · have e : z = 76 := by omega
                subst e
                exact gh_okF76
              · have e : z = 77 := by omega
                subst e
                exact gh_okF77
            · rcases Nat.lt_or_ge z 79 with h | h
              · have e : z = 78 := by omega
                subst e
                exact gh_okF78
              · rcases Nat.lt_or_ge z 80 with h | h
                · have e : z = 79 := by omega
                  subst e
                  exact gh_okF79
                · have e : z = 80 := by omega
                  subst e
                  exact gh_okF80
          · rcases Nat.lt_or_ge z 84 with h | h
            · rcases Nat.lt_or_ge z 82 with h | h
              · have e : z = 81 := by omega
                subst e
                exact gh_okF81
              · rcases Nat.lt_or_ge z 83 with h | h
                · have e : z = 82 := by omega
                  subst e
                  exact gh_okF82
                · have e : z = 83 := by omega
                  subst e
                  exact gh_okF83
            · rcases Nat.lt_or_ge z 85 with h | h
              · have e : z = 84 := by omega
                subst e
                exact gh_okF84
              · rcases Nat.lt_or_ge z 86 with h | h
                · have e : z = 85 := by omega
                  subst e
                  exact gh_okF85
                · have e : z = 86 := by omega
                  subst e
                  exact gh_okF86
  · rcases Nat.lt_or_ge z 131 with h | h
    · rcases Nat.lt_or_ge z 109 with h | h
      · rcases Nat.lt_or_ge z 98 with h | h
        · rcases Nat.lt_or_ge z 92 with h | h
          · rcases Nat.lt_or_ge z 89 with h | h
            · rcases Nat.lt_or_ge z 88 with h | h
              · have e : z = 87 := by omega
                subst e
                exact gh_okF87
              · have e : z = 88 := by omega
                subst e
                exact gh_okF88
            · rcases Nat.lt_or_ge z 90 with h | h
              · have e : z = 89 := by omega
                subst e
                exact gh_okF89
              · rcases Nat.lt_or_ge z 91 with h | h
                · have e : z = 90 := by omega
                  subst e
                  exact gh_okF90
                · have e : z = 91 := by omega
                  subst e
                  exact gh_okF91
          · rcases Nat.lt_or_ge z 95 with h | h
            · rcases Nat.lt_or_ge z 93 with h | h
              · have e : z = 92 := by omega
                subst e
                exact gh_okF92
              · rcases Nat.lt_or_ge z 94 with h | h
                · have e : z = 93 := by omega
                  subst e
                  exact gh_okF93
                · have e : z = 94 := by omega
                  subst e
                  exact gh_okF94
            · rcases Nat.lt_or_ge z 96 with h | h
              · have e : z = 95 := by omega
                subst e
                exact gh_okF95
              · rcases Nat.lt_or_ge z 97 with h | h
                · have e : z = 96 := by omega
                  subst e
                  exact gh_okF96
                · have e : z = 97 := by omega
                  subst e
                  exact gh_okF97
        · rcases Nat.lt_or_ge z 103 with h | h
          · rcases Nat.lt_or_ge z 100 with h | h
            · rcases Nat.lt_or_ge z 99 with h | h
              · have e : z = 98 := by omega
                subst e
                exact gh_okF98
              · have e : z = 99 := by omega
                subst e
                exact gh_okF99
            · rcases Nat.lt_or_ge z 101 with h | h
              · have e : z = 100 := by omega
                subst e
                exact gh_okF100
              · rcases Nat.lt_or_ge z 102 with h | h
                · have e : z = 101 := by omega
                  subst e
                  exact gh_okF101
                · have e : z = 102 := by omega
                  subst e
                  exact gh_okF102
          · rcases Nat.lt_or_ge z 106 with h | h
            · rcases Nat.lt_or_ge z 104 with h | h
              · have e : z = 103 := by omega
                subst e
                exact gh_okF103
              · rcases Nat.lt_or_ge z 105 with h | h
                · have e : z = 104 := by omega
                  subst e
                  exact gh_okF104
                · have e : z = 105 := by omega
                  subst e
                  exact gh_okF105
            · rcases Nat.lt_or_ge z 107 with h | h
              · have e : z = 106 := by omega
                subst e
                exact gh_okF106
              · rcases Nat.lt_or_ge z 108 with h | h
                · have e : z = 107 := by omega
                  subst e
                  exact gh_okF107
                · have e : z = 108 := by omega
                  subst e
                  exact gh_okF108
      · rcases Nat.lt_or_ge z 120 with h | h
        · rcases Nat.lt_or_ge z 114 with h | h
          · rcases Nat.lt_or_ge z 111 with h | h
            · rcases Nat.lt_or_ge z 110 with h | h
              · have e : z = 109 := by omega
                subst e
                exact gh_okF109
              · have e : z = 110 := by omega
                subst e
                exact gh_okF110
            · rcases Nat.lt_or_ge z 112 with h | h
              · have e : z = 111 := by omega
                subst e
                exact gh_okF111
              · rcases Nat.lt_or_ge z 113 with h | h
                · have e : z = 112 := by omega
                  subst e
                  exact gh_okF112
                · have e : z = 113 := by omega
                  subst e
                  exact gh_okF113
          · rcases Nat.lt_or_ge z 117 with h | h
            · rcases Nat.lt_or_ge z 115 with h | h
              · have e : z = 114 := by omega
                subst e
                exact gh_okF114
              · rcases Nat.lt_or_ge z 116 with h | h
                · have e : z = 115 := by omega
                  subst e
                  exact gh_okF115
                · have e : z = 116 := by omega
                  subst e
                  exact gh_okF116
            · rcases Nat.lt_or_ge z 118 with h | h
              · have e : z = 117 := by omega
                subst e
                exact gh_okF117
              · rcases Nat.lt_or_ge z 119 with h | h
                · have e : z = 118 := by omega
                  subst e
                  exact gh_okF118
                · have e : z = 119 := by omega
                  subst e
                  exact gh_okF119
        · rcases Nat.lt_or_ge z 125 with h | h
          · rcases Nat.lt_or_ge z 122 with h | h
            · rcases Nat.lt_or_ge z 121 with h | h
              · have e : z = 120 := by omega
                subst e
                exact gh_okF120
              · have e : z = 121 := by omega
                subst e
                exact gh_okF121
            · rcases Nat.lt_or_ge z 123 with h | h
              · have e : z = 122 := by omega
                subst e
                exact gh_okF122
              · rcases Nat.lt_or_ge z 124 with h | h
                · have e : z = 123 := by omega
                  subst e
                  exact gh_okF123
                · have e : z = 124 := by omega
                  subst e
                  exact gh_okF124
          · rcases Nat.lt_or_ge z 128 with h | h
            · rcases Nat.lt_or_ge z 126 with h | h
              · have e : z = 125 := by omega
                subst e
                exact gh_okF125
              · rcases Nat.lt_or_ge z 127 with h | h
                · have e : z = 126 := by omega
                  subst e
                  exact gh_okF126
                · have e : z = 127 := by omega
                  subst e
                  exact gh_okF127
            · rcases Nat.lt_or_ge z 129 with h | h
              · have e : z = 128 := by omega
                subst e
                exact gh_okF128
              · rcases Nat.lt_or_ge z 130 with h | h
                · have e : z = 129 := by omega
                  subst e
                  exact gh_okF129
                · have e : z = 130 := by omega
                  subst e
                  exact gh_okF130
    · rcases Nat.lt_or_ge z 153 with h | h
      · rcases Nat.lt_or_ge z 142 with h | h
        · rcases Nat.lt_or_ge z 136 with h | h
          · rcases Nat.lt_or_ge z 133 with h | h
            · rcases Nat.lt_or_ge z 132 with h | h
              · have e : z = 131 := by omega
                subst e
                exact gh_okF131
              · have e : z = 132 := by omega
                subst e
                exact gh_okF132
            · rcases Nat.lt_or_ge z 134 with h | h
              · have e : z = 133 := by omega
                subst e
                exact gh_okF133
              · rcases Nat.lt_or_ge z 135 with h | h
                · have e : z = 134 := by omega
                  subst e
                  exact gh_okF134
                · have e : z = 135 := by omega
                  subst e
                  exact gh_okF135
          · rcases Nat.lt_or_ge z 139 with h | h
            · rcases Nat.lt_or_ge z 137 with h | h
              · have e : z = 136 := by omega
                subst e
                exact gh_okF136
              · rcases Nat.lt_or_ge z 138 with h | h
                · have e : z = 137 := by omega
                  subst e
                  exact gh_okF137
                · have e : z = 138 := by omega
                  subst e
                  exact gh_okF138
            · rcases Nat.lt_or_ge z 140 with h | h
              · have e : z = 139 := by omega
                subst e
                exact gh_okF139
              · rcases Nat.lt_or_ge z 141 with h | h
                · have e : z = 140 := by omega
                  subst e
                  exact gh_okF140
                · have e : z = 141 := by omega
                  subst e
                  exact gh_okF141
        · rcases Nat.lt_or_ge z 147 with h | h
          · rcases Nat.lt_or_ge z 144 with h | h
            · rcases Nat.lt_or_ge z 143 with h | h
              · have e : z = 142 := by omega
                subst e
                exact gh_okF142
              · have e : z = 143 := by omega
                subst e
                exact gh_okF143
            · rcases Nat.lt_or_ge z 145 with h | h
              · have e : z = 144 := by omega
                subst e
                exact gh_okF144
              · rcases Nat.lt_or_ge z 146 with h | h
                · have e : z = 145 := by omega
                  subst e
                  exact gh_okF145
                · have e : z = 146 := by omega
                  subst e
                  exact gh_okF146
          · rcases Nat.lt_or_ge z 150 with h | h
            · rcases Nat.lt_or_ge z 148 with h | h
              · have e : z = 147 := by omega
                subst e
                exact gh_okF147
              · rcases Nat.lt_or_ge z 149 with h | h
                · have e : z = 148 := by omega
                  subst e
                  exact gh_okF148
                · have e : z = 149 := by omega
                  subst e
                  exact gh_okF149
            · rcases Nat.lt_or_ge z 151 with h | h
              · have e : z = 150 := by omega
                subst e
                exact gh_okF150
              · rcases Nat.lt_or_ge z 152 with h | h
                · have e : z = 151 := by omega
                  subst e
                  exact gh_okF151
                · have e : z = 152 := by omega
                  subst e
                  exact gh_okF152
      · rcases Nat.lt_or_ge z 164 with h | h
        · rcases Nat.lt_or_ge z 158 with h | h
          · rcases Nat.lt_or_ge z 155 with h | h
            · rcases Nat.lt_or_ge z 154 with h | h
              · have e : z = 153 := by omega
                subst e
                exact gh_okF153
              · have e : z = 154 := by omega
                subst e
                exact gh_okF154
            · rcases Nat.lt_or_ge z 156 with h | h
              · have e : z = 155 := by omega
                subst e
                exact gh_okF155
              · rcases Nat.lt_or_ge z 157 with h | h
                · have e : z = 156 := by omega
                  subst e
                  exact gh_okF156
                · have e : z = 157 := by omega
                  subst e
                  exact gh_okF157
          · rcases Nat.lt_or_ge z 161 with h | h
            · rcases Nat.lt_or_ge z 159 with h | h
              · have e : z = 158 := by omega
                subst e
                exact gh_okF158
              · rcases Nat.lt_or_ge z 160 with h | h
                · have e : z = 159 := by omega
                  subst e
                  exact gh_okF159
                · have e : z = 160 := by omega
                  subst e
                  exact gh_okF160
            · rcases Nat.lt_or_ge z 162 with h | h
              · have e : z = 161 := by omega
                subst e
                exact gh_okF161
              · rcases Nat.lt_or_ge z 163 with h | h
                · have e : z = 162 := by omega
                  subst e
                  exact gh_okF162
                · have e : z = 163 := by omega
                  subst e
                  exact gh_okF163
        · rcases Nat.lt_or_ge z 169 with h | h
          · rcases Nat.lt_or_ge z 166 with h | h
            · rcases Nat.lt_or_ge z 165 with h | h
              · have e : z = 164 := by omega
                subst e
                exact gh_okF164
              · have e : z = 165 := by omega
                subst e
                exact gh_okF165
            · rcases Nat.lt_or_ge z 167 with h | h
              · have e : z = 166 := by omega
                subst e
                exact gh_okF166
              · rcases Nat.lt_or_ge z 168 with h | h
                · have e : z = 167 := by omega
                  subst e
                  exact gh_okF167
                · have e : z = 168 := by omega
                  subst e
                  exact gh_okF168
          · rcases Nat.lt_or_ge z 172 with h | h
            · rcases Nat.lt_or_ge z 170 with h | h
              · have e : z = 169 := by omega
                subst e
                exact gh_okF169
              · rcases Nat.lt_or_ge z 171 with h | h
                · have e : z = 170 := by omega
                  subst e
                  exact gh_okF170
                · have e : z = 171 := by omega
                  subst e
                  exact gh_okF171
            · rcases Nat.lt_or_ge z 173 with h | h
              · have e : z = 172 := by omega
                subst e
                exact gh_okF172
              · rcases Nat.lt_or_ge z 174 with h | h
                · have e : z = 173 := by omega
                  subst e
                  exact gh_okF173
                · have e : z = 174 := by omega
                  subst e
                  exact gh_okF174

