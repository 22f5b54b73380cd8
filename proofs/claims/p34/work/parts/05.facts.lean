def hin_ok (ws : List Cond) : Bool := ws.all fun w => decide (w ∈ lw_tbl) && goodWord w
theorem hin_of {ws : List Cond} (h : hin_ok ws = true) : ∀ w ∈ ws, w ∈ lw_g := fun w hw => by
  have h1 := List.all_eq_true.mp h w hw
  simp only [Bool.and_eq_true, decide_eq_true_eq] at h1
  exact List.mem_filter.mpr h1
theorem hinX0 : ∀ w ∈ u_ws RX0 TX0 2, w ∈ lw_g := hin_of (by decide +kernel)
theorem hinX1 : ∀ w ∈ u_ws RX1 TX1 3, w ∈ lw_g := hin_of (by decide +kernel)
theorem hinX2 : ∀ w ∈ u_ws RX2 TX2 3, w ∈ lw_g := hin_of (by decide +kernel)
theorem hinX3 : ∀ w ∈ u_ws RX3 TX3 18, w ∈ lw_g := hin_of (by decide +kernel)
theorem hinX4 : ∀ w ∈ u_ws RX4 TX4 7, w ∈ lw_g := hin_of (by decide +kernel)
theorem hinX5 : ∀ w ∈ u_ws RX5 TX5 17, w ∈ lw_g := hin_of (by decide +kernel)
theorem hinX6 : ∀ w ∈ u_ws RX6 TX6 4, w ∈ lw_g := hin_of (by decide +kernel)
theorem flX2_7 : k_fld RX2 7 2 0 := ⟨(RX2, TX2, 3), rfl, by decide, lw_gm (i := 63) (by decide +kernel) rfl, hinX2⟩
theorem flX5_63 : k_fld RX5 63 2 0 := ⟨(RX2, TX2, 3), rfl, by decide, lw_gm (i := 64) (by decide +kernel) rfl, hinX2⟩
theorem flX3_123 : k_fld RX3 123 2 0 := ⟨(RX2, TX2, 3), rfl, by decide, lw_gm (i := 65) (by decide +kernel) rfl, hinX2⟩
theorem flX2_13 : k_fld RX2 13 2 1 := ⟨(RX2, TX2, 3), rfl, by decide, lw_gm (i := 66) (by decide +kernel) rfl, hinX2⟩
theorem flX5_66 : k_fld RX5 66 2 1 := ⟨(RX2, TX2, 3), rfl, by decide, lw_gm (i := 67) (by decide +kernel) rfl, hinX2⟩
theorem flX3_126 : k_fld RX3 126 2 1 := ⟨(RX2, TX2, 3), rfl, by decide, lw_gm (i := 68) (by decide +kernel) rfl, hinX2⟩
theorem flX2_16 : k_fld RX2 16 2 2 := ⟨(RX2, TX2, 3), rfl, by decide, lw_gm (i := 69) (by decide +kernel) rfl, hinX2⟩
theorem flX5_67 : k_fld RX5 67 2 2 := ⟨(RX2, TX2, 3), rfl, by decide, lw_gm (i := 70) (by decide +kernel) rfl, hinX2⟩
theorem flX3_129 : k_fld RX3 129 2 2 := ⟨(RX2, TX2, 3), rfl, by decide, lw_gm (i := 71) (by decide +kernel) rfl, hinX2⟩
theorem flX0_7 : k_fld RX0 7 0 0 := ⟨(RX0, TX0, 2), rfl, by decide, lw_gm (i := 85) (by decide +kernel) rfl, hinX0⟩
theorem flX3_132 : k_fld RX3 132 0 0 := ⟨(RX0, TX0, 2), rfl, by decide, lw_gm (i := 86) (by decide +kernel) rfl, hinX0⟩
theorem flX0_13 : k_fld RX0 13 0 1 := ⟨(RX0, TX0, 2), rfl, by decide, lw_gm (i := 87) (by decide +kernel) rfl, hinX0⟩
theorem flX3_135 : k_fld RX3 135 0 1 := ⟨(RX0, TX0, 2), rfl, by decide, lw_gm (i := 88) (by decide +kernel) rfl, hinX0⟩
theorem flX5_9 : k_fld RX5 9 5 0 := ⟨(RX5, TX5, 17), rfl, by decide, lw_gm (i := 99) (by decide +kernel) rfl, hinX5⟩
theorem flX3_203 : k_fld RX3 203 5 0 := ⟨(RX5, TX5, 17), rfl, by decide, lw_gm (i := 100) (by decide +kernel) rfl, hinX5⟩
theorem flX5_15 : k_fld RX5 15 5 1 := ⟨(RX5, TX5, 17), rfl, by decide, lw_gm (i := 101) (by decide +kernel) rfl, hinX5⟩
theorem flX3_206 : k_fld RX3 206 5 1 := ⟨(RX5, TX5, 17), rfl, by decide, lw_gm (i := 102) (by decide +kernel) rfl, hinX5⟩
theorem flX5_18 : k_fld RX5 18 5 2 := ⟨(RX5, TX5, 17), rfl, by decide, lw_gm (i := 103) (by decide +kernel) rfl, hinX5⟩
theorem flX3_209 : k_fld RX3 209 5 2 := ⟨(RX5, TX5, 17), rfl, by decide, lw_gm (i := 104) (by decide +kernel) rfl, hinX5⟩
theorem flX5_21 : k_fld RX5 21 5 3 := ⟨(RX5, TX5, 17), rfl, by decide, lw_gm (i := 105) (by decide +kernel) rfl, hinX5⟩
theorem flX5_24 : k_fld RX5 24 5 4 := ⟨(RX5, TX5, 17), rfl, by decide, lw_gm (i := 106) (by decide +kernel) rfl, hinX5⟩
theorem flX3_232 : k_fld RX3 232 5 4 := ⟨(RX5, TX5, 17), rfl, by decide, lw_gm (i := 107) (by decide +kernel) rfl, hinX5⟩
theorem flX5_27 : k_fld RX5 27 5 5 := ⟨(RX5, TX5, 17), rfl, by decide, lw_gm (i := 108) (by decide +kernel) rfl, hinX5⟩
theorem flX3_200 : k_fld RX3 200 5 5 := ⟨(RX5, TX5, 17), rfl, by decide, lw_gm (i := 109) (by decide +kernel) rfl, hinX5⟩
theorem flX5_30 : k_fld RX5 30 5 6 := ⟨(RX5, TX5, 17), rfl, by decide, lw_gm (i := 110) (by decide +kernel) rfl, hinX5⟩
theorem flX3_152 : k_fld RX3 152 5 6 := ⟨(RX5, TX5, 17), rfl, by decide, lw_gm (i := 111) (by decide +kernel) rfl, hinX5⟩
theorem flX6_150 : k_fld RX6 150 5 6 := ⟨(RX5, TX5, 17), rfl, by decide, lw_gm (i := 112) (by decide +kernel) rfl, hinX5⟩
theorem flX5_33 : k_fld RX5 33 5 7 := ⟨(RX5, TX5, 17), rfl, by decide, lw_gm (i := 113) (by decide +kernel) rfl, hinX5⟩
theorem flX5_36 : k_fld RX5 36 5 8 := ⟨(RX5, TX5, 17), rfl, by decide, lw_gm (i := 114) (by decide +kernel) rfl, hinX5⟩
theorem flX3_293 : k_fld RX3 293 5 8 := ⟨(RX5, TX5, 17), rfl, by decide, lw_gm (i := 115) (by decide +kernel) rfl, hinX5⟩
theorem flX5_39 : k_fld RX5 39 5 9 := ⟨(RX5, TX5, 17), rfl, by decide, lw_gm (i := 116) (by decide +kernel) rfl, hinX5⟩
theorem flX5_42 : k_fld RX5 42 5 10 := ⟨(RX5, TX5, 17), rfl, by decide, lw_gm (i := 117) (by decide +kernel) rfl, hinX5⟩
theorem flX5_45 : k_fld RX5 45 5 11 := ⟨(RX5, TX5, 17), rfl, by decide, lw_gm (i := 118) (by decide +kernel) rfl, hinX5⟩
theorem flX3_217 : k_fld RX3 217 5 11 := ⟨(RX5, TX5, 17), rfl, by decide, lw_gm (i := 119) (by decide +kernel) rfl, hinX5⟩
theorem flX5_48 : k_fld RX5 48 5 12 := ⟨(RX5, TX5, 17), rfl, by decide, lw_gm (i := 120) (by decide +kernel) rfl, hinX5⟩
theorem flX3_220 : k_fld RX3 220 5 12 := ⟨(RX5, TX5, 17), rfl, by decide, lw_gm (i := 121) (by decide +kernel) rfl, hinX5⟩
theorem flX5_51 : k_fld RX5 51 5 13 := ⟨(RX5, TX5, 17), rfl, by decide, lw_gm (i := 122) (by decide +kernel) rfl, hinX5⟩
theorem flX3_226 : k_fld RX3 226 5 13 := ⟨(RX5, TX5, 17), rfl, by decide, lw_gm (i := 123) (by decide +kernel) rfl, hinX5⟩
theorem flX5_54 : k_fld RX5 54 5 14 := ⟨(RX5, TX5, 17), rfl, by decide, lw_gm (i := 124) (by decide +kernel) rfl, hinX5⟩
theorem flX3_229 : k_fld RX3 229 5 14 := ⟨(RX5, TX5, 17), rfl, by decide, lw_gm (i := 125) (by decide +kernel) rfl, hinX5⟩
theorem flX5_57 : k_fld RX5 57 5 15 := ⟨(RX5, TX5, 17), rfl, by decide, lw_gm (i := 126) (by decide +kernel) rfl, hinX5⟩
theorem flX5_60 : k_fld RX5 60 5 16 := ⟨(RX5, TX5, 17), rfl, by decide, lw_gm (i := 127) (by decide +kernel) rfl, hinX5⟩
theorem flX3_160 : k_fld RX3 160 5 16 := ⟨(RX5, TX5, 17), rfl, by decide, lw_gm (i := 128) (by decide +kernel) rfl, hinX5⟩
theorem flX3_18 : k_fld RX3 18 3 0 := ⟨(RX3, TX3, 18), rfl, by decide, lw_gm (i := 164) (by decide +kernel) rfl, hinX3⟩
theorem flX6_163 : k_fld RX6 163 3 0 := ⟨(RX3, TX3, 18), rfl, by decide, lw_gm (i := 165) (by decide +kernel) rfl, hinX3⟩
theorem flX3_26 : k_fld RX3 26 3 1 := ⟨(RX3, TX3, 18), rfl, by decide, lw_gm (i := 166) (by decide +kernel) rfl, hinX3⟩
theorem flX3_31 : k_fld RX3 31 3 2 := ⟨(RX3, TX3, 18), rfl, by decide, lw_gm (i := 167) (by decide +kernel) rfl, hinX3⟩
theorem flX3_37 : k_fld RX3 37 3 3 := ⟨(RX3, TX3, 18), rfl, by decide, lw_gm (i := 168) (by decide +kernel) rfl, hinX3⟩
theorem flX3_43 : k_fld RX3 43 3 4 := ⟨(RX3, TX3, 18), rfl, by decide, lw_gm (i := 169) (by decide +kernel) rfl, hinX3⟩
theorem flX6_95 : k_fld RX6 95 3 4 := ⟨(RX3, TX3, 18), rfl, by decide, lw_gm (i := 170) (by decide +kernel) rfl, hinX3⟩
theorem flX3_91 : k_fld RX3 91 3 5 := ⟨(RX3, TX3, 18), rfl, by decide, lw_gm (i := 171) (by decide +kernel) rfl, hinX3⟩
theorem flX3_94 : k_fld RX3 94 3 6 := ⟨(RX3, TX3, 18), rfl, by decide, lw_gm (i := 172) (by decide +kernel) rfl, hinX3⟩
theorem flX3_97 : k_fld RX3 97 3 7 := ⟨(RX3, TX3, 18), rfl, by decide, lw_gm (i := 173) (by decide +kernel) rfl, hinX3⟩
theorem flX3_67 : k_fld RX3 67 3 8 := ⟨(RX3, TX3, 18), rfl, by decide, lw_gm (i := 174) (by decide +kernel) rfl, hinX3⟩
theorem flX6_137 : k_fld RX6 137 3 8 := ⟨(RX3, TX3, 18), rfl, by decide, lw_gm (i := 175) (by decide +kernel) rfl, hinX3⟩
theorem flX3_70 : k_fld RX3 70 3 9 := ⟨(RX3, TX3, 18), rfl, by decide, lw_gm (i := 176) (by decide +kernel) rfl, hinX3⟩
theorem flX3_73 : k_fld RX3 73 3 10 := ⟨(RX3, TX3, 18), rfl, by decide, lw_gm (i := 177) (by decide +kernel) rfl, hinX3⟩
theorem flX3_76 : k_fld RX3 76 3 11 := ⟨(RX3, TX3, 18), rfl, by decide, lw_gm (i := 178) (by decide +kernel) rfl, hinX3⟩
theorem flX6_199 : k_fld RX6 199 3 11 := ⟨(RX3, TX3, 18), rfl, by decide, lw_gm (i := 179) (by decide +kernel) rfl, hinX3⟩
theorem flX3_47 : k_fld RX3 47 3 12 := ⟨(RX3, TX3, 18), rfl, by decide, lw_gm (i := 180) (by decide +kernel) rfl, hinX3⟩
theorem flX3_51 : k_fld RX3 51 3 13 := ⟨(RX3, TX3, 18), rfl, by decide, lw_gm (i := 181) (by decide +kernel) rfl, hinX3⟩
theorem flX3_79 : k_fld RX3 79 3 14 := ⟨(RX3, TX3, 18), rfl, by decide, lw_gm (i := 182) (by decide +kernel) rfl, hinX3⟩
theorem flX3_82 : k_fld RX3 82 3 15 := ⟨(RX3, TX3, 18), rfl, by decide, lw_gm (i := 183) (by decide +kernel) rfl, hinX3⟩
theorem flX3_85 : k_fld RX3 85 3 16 := ⟨(RX3, TX3, 18), rfl, by decide, lw_gm (i := 184) (by decide +kernel) rfl, hinX3⟩
theorem flX3_88 : k_fld RX3 88 3 17 := ⟨(RX3, TX3, 18), rfl, by decide, lw_gm (i := 185) (by decide +kernel) rfl, hinX3⟩
theorem flX6_202 : k_fld RX6 202 3 17 := ⟨(RX3, TX3, 18), rfl, by decide, lw_gm (i := 186) (by decide +kernel) rfl, hinX3⟩
theorem flX1_11 : k_fld RX1 11 1 0 := ⟨(RX1, TX1, 3), rfl, by decide, lw_gm (i := 233) (by decide +kernel) rfl, hinX1⟩
theorem flX1_18 : k_fld RX1 18 1 1 := ⟨(RX1, TX1, 3), rfl, by decide, lw_gm (i := 234) (by decide +kernel) rfl, hinX1⟩
theorem flX1_22 : k_fld RX1 22 1 2 := ⟨(RX1, TX1, 3), rfl, by decide, lw_gm (i := 235) (by decide +kernel) rfl, hinX1⟩
theorem flX6_167 : k_fld RX6 167 1 2 := ⟨(RX1, TX1, 3), rfl, by decide, lw_gm (i := 236) (by decide +kernel) rfl, hinX1⟩
theorem flX4_9 : k_fld RX4 9 4 0 := ⟨(RX4, TX4, 7), rfl, by decide, lw_gm (i := 250) (by decide +kernel) rfl, hinX4⟩
theorem flX4_15 : k_fld RX4 15 4 1 := ⟨(RX4, TX4, 7), rfl, by decide, lw_gm (i := 251) (by decide +kernel) rfl, hinX4⟩
theorem flX6_170 : k_fld RX6 170 4 2 := ⟨(RX4, TX4, 7), rfl, by decide, lw_gm (i := 252) (by decide +kernel) rfl, hinX4⟩
theorem flX6_10 : k_fld RX6 10 6 0 := ⟨(RX6, TX6, 4), rfl, by decide, lw_gm (i := 269) (by decide +kernel) rfl, hinX6⟩
theorem flX6_16 : k_fld RX6 16 6 1 := ⟨(RX6, TX6, 4), rfl, by decide, lw_gm (i := 270) (by decide +kernel) rfl, hinX6⟩
theorem flX6_22 : k_fld RX6 22 6 2 := ⟨(RX6, TX6, 4), rfl, by decide, lw_gm (i := 271) (by decide +kernel) rfl, hinX6⟩
theorem flX6_29 : k_fld RX6 29 6 3 := ⟨(RX6, TX6, 4), rfl, by decide, lw_gm (i := 272) (by decide +kernel) rfl, hinX6⟩
theorem fpX0_0 : k_fldp 0 0 := ⟨(RX0, TX0, 2), tyX0, rfl, tyX0_ok, nmX0, rfl, by decide +kernel⟩
theorem fpX0_1 : k_fldp 0 1 := ⟨(RX0, TX0, 2), tyX0, rfl, tyX0_ok, nmX0, rfl, by decide +kernel⟩
theorem fpX1_1 : k_fldp 1 1 := ⟨(RX1, TX1, 3), tyX1, rfl, tyX1_ok, nmX1, rfl, by decide +kernel⟩
theorem fpX1_2 : k_fldp 1 2 := ⟨(RX1, TX1, 3), tyX1, rfl, tyX1_ok, nmX1, rfl, by decide +kernel⟩
theorem fpX2_0 : k_fldp 2 0 := ⟨(RX2, TX2, 3), tyX2, rfl, tyX2_ok, nmX2, rfl, by decide +kernel⟩
theorem fpX2_1 : k_fldp 2 1 := ⟨(RX2, TX2, 3), tyX2, rfl, tyX2_ok, nmX2, rfl, by decide +kernel⟩
theorem fpX2_2 : k_fldp 2 2 := ⟨(RX2, TX2, 3), tyX2, rfl, tyX2_ok, nmX2, rfl, by decide +kernel⟩
theorem fpX3_5 : k_fldp 3 5 := ⟨(RX3, TX3, 18), tyX3, rfl, tyX3_ok, nmX3, rfl, by decide +kernel⟩
theorem fpX3_6 : k_fldp 3 6 := ⟨(RX3, TX3, 18), tyX3, rfl, tyX3_ok, nmX3, rfl, by decide +kernel⟩
theorem fpX3_7 : k_fldp 3 7 := ⟨(RX3, TX3, 18), tyX3, rfl, tyX3_ok, nmX3, rfl, by decide +kernel⟩
theorem fpX3_8 : k_fldp 3 8 := ⟨(RX3, TX3, 18), tyX3, rfl, tyX3_ok, nmX3, rfl, by decide +kernel⟩
theorem fpX3_9 : k_fldp 3 9 := ⟨(RX3, TX3, 18), tyX3, rfl, tyX3_ok, nmX3, rfl, by decide +kernel⟩
theorem fpX3_10 : k_fldp 3 10 := ⟨(RX3, TX3, 18), tyX3, rfl, tyX3_ok, nmX3, rfl, by decide +kernel⟩
theorem fpX3_11 : k_fldp 3 11 := ⟨(RX3, TX3, 18), tyX3, rfl, tyX3_ok, nmX3, rfl, by decide +kernel⟩
theorem fpX3_12 : k_fldp 3 12 := ⟨(RX3, TX3, 18), tyX3, rfl, tyX3_ok, nmX3, rfl, by decide +kernel⟩
theorem fpX3_13 : k_fldp 3 13 := ⟨(RX3, TX3, 18), tyX3, rfl, tyX3_ok, nmX3, rfl, by decide +kernel⟩
theorem fpX3_14 : k_fldp 3 14 := ⟨(RX3, TX3, 18), tyX3, rfl, tyX3_ok, nmX3, rfl, by decide +kernel⟩
theorem fpX3_15 : k_fldp 3 15 := ⟨(RX3, TX3, 18), tyX3, rfl, tyX3_ok, nmX3, rfl, by decide +kernel⟩
theorem fpX3_16 : k_fldp 3 16 := ⟨(RX3, TX3, 18), tyX3, rfl, tyX3_ok, nmX3, rfl, by decide +kernel⟩
theorem fpX3_17 : k_fldp 3 17 := ⟨(RX3, TX3, 18), tyX3, rfl, tyX3_ok, nmX3, rfl, by decide +kernel⟩
theorem fpX4_2 : k_fldp 4 2 := ⟨(RX4, TX4, 7), tyX4, rfl, tyX4_ok, nmX4, rfl, by decide +kernel⟩
theorem fpX4_3 : k_fldp 4 3 := ⟨(RX4, TX4, 7), tyX4, rfl, tyX4_ok, nmX4, rfl, by decide +kernel⟩
theorem fpX4_4 : k_fldp 4 4 := ⟨(RX4, TX4, 7), tyX4, rfl, tyX4_ok, nmX4, rfl, by decide +kernel⟩
theorem fpX4_5 : k_fldp 4 5 := ⟨(RX4, TX4, 7), tyX4, rfl, tyX4_ok, nmX4, rfl, by decide +kernel⟩
theorem fpX4_6 : k_fldp 4 6 := ⟨(RX4, TX4, 7), tyX4, rfl, tyX4_ok, nmX4, rfl, by decide +kernel⟩
theorem fpX5_0 : k_fldp 5 0 := ⟨(RX5, TX5, 17), tyX5, rfl, tyX5_ok, nmX5, rfl, by decide +kernel⟩
theorem fpX5_1 : k_fldp 5 1 := ⟨(RX5, TX5, 17), tyX5, rfl, tyX5_ok, nmX5, rfl, by decide +kernel⟩
theorem fpX5_2 : k_fldp 5 2 := ⟨(RX5, TX5, 17), tyX5, rfl, tyX5_ok, nmX5, rfl, by decide +kernel⟩
theorem fpX5_3 : k_fldp 5 3 := ⟨(RX5, TX5, 17), tyX5, rfl, tyX5_ok, nmX5, rfl, by decide +kernel⟩
theorem fpX5_4 : k_fldp 5 4 := ⟨(RX5, TX5, 17), tyX5, rfl, tyX5_ok, nmX5, rfl, by decide +kernel⟩
theorem fpX5_5 : k_fldp 5 5 := ⟨(RX5, TX5, 17), tyX5, rfl, tyX5_ok, nmX5, rfl, by decide +kernel⟩
theorem fpX5_6 : k_fldp 5 6 := ⟨(RX5, TX5, 17), tyX5, rfl, tyX5_ok, nmX5, rfl, by decide +kernel⟩
theorem fpX5_7 : k_fldp 5 7 := ⟨(RX5, TX5, 17), tyX5, rfl, tyX5_ok, nmX5, rfl, by decide +kernel⟩
theorem fpX5_8 : k_fldp 5 8 := ⟨(RX5, TX5, 17), tyX5, rfl, tyX5_ok, nmX5, rfl, by decide +kernel⟩
theorem fpX5_9 : k_fldp 5 9 := ⟨(RX5, TX5, 17), tyX5, rfl, tyX5_ok, nmX5, rfl, by decide +kernel⟩
theorem fpX5_10 : k_fldp 5 10 := ⟨(RX5, TX5, 17), tyX5, rfl, tyX5_ok, nmX5, rfl, by decide +kernel⟩
theorem fpX5_11 : k_fldp 5 11 := ⟨(RX5, TX5, 17), tyX5, rfl, tyX5_ok, nmX5, rfl, by decide +kernel⟩
theorem fpX5_12 : k_fldp 5 12 := ⟨(RX5, TX5, 17), tyX5, rfl, tyX5_ok, nmX5, rfl, by decide +kernel⟩
theorem fpX5_13 : k_fldp 5 13 := ⟨(RX5, TX5, 17), tyX5, rfl, tyX5_ok, nmX5, rfl, by decide +kernel⟩
theorem fpX5_14 : k_fldp 5 14 := ⟨(RX5, TX5, 17), tyX5, rfl, tyX5_ok, nmX5, rfl, by decide +kernel⟩
theorem fpX5_15 : k_fldp 5 15 := ⟨(RX5, TX5, 17), tyX5, rfl, tyX5_ok, nmX5, rfl, by decide +kernel⟩
theorem fpX5_16 : k_fldp 5 16 := ⟨(RX5, TX5, 17), tyX5, rfl, tyX5_ok, nmX5, rfl, by decide +kernel⟩
theorem mwX0_takeFrom : k_mw yX0_takeFrom cX0_takeFrom 2 none 1 := ⟨lw_gm (i := 308) (by decide +kernel) rfl, lw_gm (i := 21) (by decide +kernel) rfl, by decide +kernel, by decide +kernel⟩
theorem iwX0_takeFrom : k_iw yX0_takeFrom := ⟨lw_gm (i := 306) (by decide +kernel) rfl, lw_gm (i := 307) (by decide +kernel) rfl⟩
theorem mwX1_hold : k_mw yX1_hold cX1_hold 2 none 1 := ⟨lw_gm (i := 289) (by decide +kernel) rfl, lw_gm (i := 23) (by decide +kernel) rfl, by decide +kernel, by decide +kernel⟩
theorem iwX1_hold : k_iw yX1_hold := ⟨lw_gm (i := 287) (by decide +kernel) rfl, lw_gm (i := 288) (by decide +kernel) rfl⟩
theorem mwX1_keepIfDone : k_mw yX1_keepIfDone cX1_keepIfDone 2 (some .int) 1 := ⟨lw_gm (i := 328) (by decide +kernel) rfl, lw_gm (i := 23) (by decide +kernel) rfl, by decide +kernel, by decide +kernel⟩
theorem iwX1_keepIfDone : k_iw yX1_keepIfDone := ⟨lw_gm (i := 326) (by decide +kernel) rfl, lw_gm (i := 327) (by decide +kernel) rfl⟩
theorem mwX1_restore : k_mw yX1_restore cX1_restore 2 (some .int) 1 := ⟨lw_gm (i := 569) (by decide +kernel) rfl, lw_gm (i := 23) (by decide +kernel) rfl, by decide +kernel, by decide +kernel⟩
theorem iwX1_restore : k_iw yX1_restore := ⟨lw_gm (i := 567) (by decide +kernel) rfl, lw_gm (i := 568) (by decide +kernel) rfl⟩
theorem mwX2_takeFrom : k_mw yX2_takeFrom cX2_takeFrom 2 none 1 := ⟨lw_gm (i := 304) (by decide +kernel) rfl, lw_gm (i := 20) (by decide +kernel) rfl, by decide +kernel, by decide +kernel⟩
theorem iwX2_takeFrom : k_iw yX2_takeFrom := ⟨lw_gm (i := 302) (by decide +kernel) rfl, lw_gm (i := 303) (by decide +kernel) rfl⟩
theorem mwX3_copyFrom : k_mw yX3_copyFrom cX3_copyFrom 2 none 1 := ⟨lw_gm (i := 293) (by decide +kernel) rfl, lw_gm (i := 19) (by decide +kernel) rfl, by decide +kernel, by decide +kernel⟩
theorem iwX3_copyFrom : k_iw yX3_copyFrom := ⟨lw_gm (i := 291) (by decide +kernel) rfl, lw_gm (i := 292) (by decide +kernel) rfl⟩
theorem mwX3_copyGrainFrom : k_mw yX3_copyGrainFrom cX3_copyGrainFrom 3 none 1 := ⟨lw_gm (i := 300) (by decide +kernel) rfl, lw_gm (i := 19) (by decide +kernel) rfl, by decide +kernel, by decide +kernel⟩
theorem iwX3_copyGrainFrom : k_iw yX3_copyGrainFrom := ⟨lw_gm (i := 299) (by decide +kernel) rfl, lw_gm (i := 0) (by decide +kernel) rfl⟩
theorem mwX3_hasKind : k_mw yX3_hasKind cX3_hasKind 2 (some .boolean) 1 := ⟨lw_gm (i := 378) (by decide +kernel) rfl, lw_gm (i := 19) (by decide +kernel) rfl, by decide +kernel, by decide +kernel⟩
theorem iwX3_hasKind : k_iw yX3_hasKind := ⟨lw_gm (i := 376) (by decide +kernel) rfl, lw_gm (i := 377) (by decide +kernel) rfl⟩
theorem mwX3_hasFarmer : k_mw yX3_hasFarmer cX3_hasFarmer 2 (some .boolean) 1 := ⟨lw_gm (i := 374) (by decide +kernel) rfl, lw_gm (i := 19) (by decide +kernel) rfl, by decide +kernel, by decide +kernel⟩
theorem iwX3_hasFarmer : k_iw yX3_hasFarmer := ⟨lw_gm (i := 372) (by decide +kernel) rfl, lw_gm (i := 373) (by decide +kernel) rfl⟩
theorem mwX3_hasSack : k_mw yX3_hasSack cX3_hasSack 2 (some .boolean) 1 := ⟨lw_gm (i := 398) (by decide +kernel) rfl, lw_gm (i := 19) (by decide +kernel) rfl, by decide +kernel, by decide +kernel⟩
theorem iwX3_hasSack : k_iw yX3_hasSack := ⟨lw_gm (i := 396) (by decide +kernel) rfl, lw_gm (i := 397) (by decide +kernel) rfl⟩
theorem mwX3_changeSetting : k_mw yX3_changeSetting cX3_changeSetting 4 (some .int) 2 := ⟨lw_gm (i := 316) (by decide +kernel) rfl, lw_gm (i := 19) (by decide +kernel) rfl, by decide +kernel, by decide +kernel⟩
theorem iwX3_changeSetting : k_iw yX3_changeSetting := ⟨lw_gm (i := 314) (by decide +kernel) rfl, lw_gm (i := 315) (by decide +kernel) rfl⟩
theorem mwX3_changeLock : k_mw yX3_changeLock cX3_changeLock 3 (some .int) 1 := ⟨lw_gm (i := 336) (by decide +kernel) rfl, lw_gm (i := 19) (by decide +kernel) rfl, by decide +kernel, by decide +kernel⟩
theorem iwX3_changeLock : k_iw yX3_changeLock := ⟨lw_gm (i := 334) (by decide +kernel) rfl, lw_gm (i := 335) (by decide +kernel) rfl⟩
theorem mwX3_changeOpening : k_mw yX3_changeOpening cX3_changeOpening 3 (some .int) 1 := ⟨lw_gm (i := 344) (by decide +kernel) rfl, lw_gm (i := 19) (by decide +kernel) rfl, by decide +kernel, by decide +kernel⟩
theorem iwX3_changeOpening : k_iw yX3_changeOpening := ⟨lw_gm (i := 342) (by decide +kernel) rfl, lw_gm (i := 343) (by decide +kernel) rfl⟩
theorem mwX3_addKind : k_mw yX3_addKind cX3_addKind 5 (some .int) 3 := ⟨lw_gm (i := 352) (by decide +kernel) rfl, lw_gm (i := 19) (by decide +kernel) rfl, by decide +kernel, by decide +kernel⟩
theorem iwX3_addKind : k_iw yX3_addKind := ⟨lw_gm (i := 350) (by decide +kernel) rfl, lw_gm (i := 351) (by decide +kernel) rfl⟩
theorem mwX3_addFarmer : k_mw yX3_addFarmer cX3_addFarmer 2 (some .int) 0 := ⟨lw_gm (i := 362) (by decide +kernel) rfl, lw_gm (i := 19) (by decide +kernel) rfl, by decide +kernel, by decide +kernel⟩
theorem iwX3_addFarmer : k_iw yX3_addFarmer := ⟨lw_gm (i := 360) (by decide +kernel) rfl, lw_gm (i := 361) (by decide +kernel) rfl⟩
theorem mwX3_addSack : k_mw yX3_addSack cX3_addSack 4 (some .int) 3 := ⟨lw_gm (i := 370) (by decide +kernel) rfl, lw_gm (i := 19) (by decide +kernel) rfl, by decide +kernel, by decide +kernel⟩
theorem iwX3_addSack : k_iw yX3_addSack := ⟨lw_gm (i := 368) (by decide +kernel) rfl, lw_gm (i := 369) (by decide +kernel) rfl⟩
theorem mwX3_withdrawSack : k_mw yX3_withdrawSack cX3_withdrawSack 3 (some .int) 1 := ⟨lw_gm (i := 394) (by decide +kernel) rfl, lw_gm (i := 19) (by decide +kernel) rfl, by decide +kernel, by decide +kernel⟩
theorem iwX3_withdrawSack : k_iw yX3_withdrawSack := ⟨lw_gm (i := 392) (by decide +kernel) rfl, lw_gm (i := 393) (by decide +kernel) rfl⟩
theorem mwX3_fetchSack : k_mw yX3_fetchSack cX3_fetchSack 3 (some .int) 1 := ⟨lw_gm (i := 411) (by decide +kernel) rfl, lw_gm (i := 19) (by decide +kernel) rfl, by decide +kernel, by decide +kernel⟩
theorem iwX3_fetchSack : k_iw yX3_fetchSack := ⟨lw_gm (i := 409) (by decide +kernel) rfl, lw_gm (i := 410) (by decide +kernel) rfl⟩
theorem mwX3_tellKind : k_mw yX3_tellKind cX3_tellKind 3 (some .int) 2 := ⟨lw_gm (i := 643) (by decide +kernel) rfl, lw_gm (i := 19) (by decide +kernel) rfl, by decide +kernel, by decide +kernel⟩
theorem iwX3_tellKind : k_iw yX3_tellKind := ⟨lw_gm (i := 641) (by decide +kernel) rfl, lw_gm (i := 642) (by decide +kernel) rfl⟩
theorem mwX3_tellFarmer : k_mw yX3_tellFarmer cX3_tellFarmer 3 (some .int) 2 := ⟨lw_gm (i := 659) (by decide +kernel) rfl, lw_gm (i := 19) (by decide +kernel) rfl, by decide +kernel, by decide +kernel⟩
theorem iwX3_tellFarmer : k_iw yX3_tellFarmer := ⟨lw_gm (i := 657) (by decide +kernel) rfl, lw_gm (i := 658) (by decide +kernel) rfl⟩
theorem mwX3_sumOf : k_mw yX3_sumOf cX3_sumOf 6 (some .int) 3 := ⟨lw_gm (i := 631) (by decide +kernel) rfl, lw_gm (i := 19) (by decide +kernel) rfl, by decide +kernel, by decide +kernel⟩
theorem iwX3_sumOf : k_iw yX3_sumOf := ⟨lw_gm (i := 629) (by decide +kernel) rfl, lw_gm (i := 630) (by decide +kernel) rfl⟩
theorem mwX3_sacksBrought : k_mw yX3_sacksBrought cX3_sacksBrought 5 (some .int) 2 := ⟨lw_gm (i := 647) (by decide +kernel) rfl, lw_gm (i := 19) (by decide +kernel) rfl, by decide +kernel, by decide +kernel⟩
theorem iwX3_sacksBrought : k_iw yX3_sacksBrought := ⟨lw_gm (i := 646) (by decide +kernel) rfl, lw_gm (i := 15) (by decide +kernel) rfl⟩
theorem mwX3_sacksInStage : k_mw yX3_sacksInStage cX3_sacksInStage 4 (some .int) 1 := ⟨lw_gm (i := 553) (by decide +kernel) rfl, lw_gm (i := 19) (by decide +kernel) rfl, by decide +kernel, by decide +kernel⟩
theorem iwX3_sacksInStage : k_iw yX3_sacksInStage := ⟨lw_gm (i := 552) (by decide +kernel) rfl, lw_gm (i := 12) (by decide +kernel) rfl⟩
theorem mwX3_placeInQueue : k_mw yX3_placeInQueue cX3_placeInQueue 4 (some .int) 1 := ⟨lw_gm (i := 430) (by decide +kernel) rfl, lw_gm (i := 19) (by decide +kernel) rfl, by decide +kernel, by decide +kernel⟩
theorem iwX3_placeInQueue : k_iw yX3_placeInQueue := ⟨lw_gm (i := 428) (by decide +kernel) rfl, lw_gm (i := 429) (by decide +kernel) rfl⟩
theorem mwX3_sackAtPlace : k_mw yX3_sackAtPlace cX3_sackAtPlace 3 (some .int) 1 := ⟨lw_gm (i := 586) (by decide +kernel) rfl, lw_gm (i := 19) (by decide +kernel) rfl, by decide +kernel, by decide +kernel⟩
theorem iwX3_sackAtPlace : k_iw yX3_sackAtPlace := ⟨lw_gm (i := 584) (by decide +kernel) rfl, lw_gm (i := 585) (by decide +kernel) rfl⟩
theorem mwX3_firstOfQueue : k_mw yX3_firstOfQueue cX3_firstOfQueue 5 (some .int) 0 := ⟨lw_gm (i := 502) (by decide +kernel) rfl, lw_gm (i := 19) (by decide +kernel) rfl, by decide +kernel, by decide +kernel⟩
theorem iwX3_firstOfQueue : k_iw yX3_firstOfQueue := ⟨lw_gm (i := 501) (by decide +kernel) rfl, lw_gm (i := 8) (by decide +kernel) rfl⟩
theorem mwX3_waitsAheadOf : k_mw yX3_waitsAheadOf cX3_waitsAheadOf 5 (some .boolean) 2 := ⟨lw_gm (i := 435) (by decide +kernel) rfl, lw_gm (i := 19) (by decide +kernel) rfl, by decide +kernel, by decide +kernel⟩
theorem iwX3_waitsAheadOf : k_iw yX3_waitsAheadOf := ⟨lw_gm (i := 434) (by decide +kernel) rfl, lw_gm (i := 1) (by decide +kernel) rfl⟩
theorem mwX3_rankInQueue : k_mw yX3_rankInQueue cX3_rankInQueue 2 (some .int) 1 := ⟨lw_gm (i := 439) (by decide +kernel) rfl, lw_gm (i := 19) (by decide +kernel) rfl, by decide +kernel, by decide +kernel⟩
theorem iwX3_rankInQueue : k_iw yX3_rankInQueue := ⟨lw_gm (i := 438) (by decide +kernel) rfl, lw_gm (i := 2) (by decide +kernel) rfl⟩
theorem mwX3_putInPledge : k_mw yX3_putInPledge cX3_putInPledge 6 (some .int) 2 := ⟨lw_gm (i := 670) (by decide +kernel) rfl, lw_gm (i := 19) (by decide +kernel) rfl, by decide +kernel, by decide +kernel⟩
theorem iwX3_putInPledge : k_iw yX3_putInPledge := ⟨lw_gm (i := 668) (by decide +kernel) rfl, lw_gm (i := 669) (by decide +kernel) rfl⟩
theorem mwX3_loanFor : k_mw yX3_loanFor cX3_loanFor 7 (some .int) 2 := ⟨lw_gm (i := 674) (by decide +kernel) rfl, lw_gm (i := 19) (by decide +kernel) rfl, by decide +kernel, by decide +kernel⟩
theorem iwX3_loanFor : k_iw yX3_loanFor := ⟨lw_gm (i := 673) (by decide +kernel) rfl, lw_gm (i := 16) (by decide +kernel) rfl⟩
theorem mwX3_debtOf : k_mw yX3_debtOf cX3_debtOf 8 (some .int) 1 := ⟨lw_gm (i := 613) (by decide +kernel) rfl, lw_gm (i := 19) (by decide +kernel) rfl, by decide +kernel, by decide +kernel⟩
theorem iwX3_debtOf : k_iw yX3_debtOf := ⟨lw_gm (i := 611) (by decide +kernel) rfl, lw_gm (i := 612) (by decide +kernel) rfl⟩
theorem mwX3_redeemPledge : k_mw yX3_redeemPledge cX3_redeemPledge 5 (some .int) 1 := ⟨lw_gm (i := 684) (by decide +kernel) rfl, lw_gm (i := 19) (by decide +kernel) rfl, by decide +kernel, by decide +kernel⟩
theorem iwX3_redeemPledge : k_iw yX3_redeemPledge := ⟨lw_gm (i := 682) (by decide +kernel) rfl, lw_gm (i := 683) (by decide +kernel) rfl⟩
theorem mwX3_sackOfPledge : k_mw yX3_sackOfPledge cX3_sackOfPledge 3 (some .int) 1 := ⟨lw_gm (i := 596) (by decide +kernel) rfl, lw_gm (i := 19) (by decide +kernel) rfl, by decide +kernel, by decide +kernel⟩
theorem iwX3_sackOfPledge : k_iw yX3_sackOfPledge := ⟨lw_gm (i := 594) (by decide +kernel) rfl, lw_gm (i := 595) (by decide +kernel) rfl⟩
theorem mwX3_pledgesAheadOf : k_mw yX3_pledgesAheadOf cX3_pledgesAheadOf 6 (some .int) 1 := ⟨lw_gm (i := 600) (by decide +kernel) rfl, lw_gm (i := 19) (by decide +kernel) rfl, by decide +kernel, by decide +kernel⟩
theorem iwX3_pledgesAheadOf : k_iw yX3_pledgesAheadOf := ⟨lw_gm (i := 599) (by decide +kernel) rfl, lw_gm (i := 14) (by decide +kernel) rfl⟩
theorem mwX3_tellPledge : k_mw yX3_tellPledge cX3_tellPledge 4 (some .int) 2 := ⟨lw_gm (i := 604) (by decide +kernel) rfl, lw_gm (i := 19) (by decide +kernel) rfl, by decide +kernel, by decide +kernel⟩
theorem iwX3_tellPledge : k_iw yX3_tellPledge := ⟨lw_gm (i := 602) (by decide +kernel) rfl, lw_gm (i := 603) (by decide +kernel) rfl⟩
theorem mwX3_pledgesOf : k_mw yX3_pledgesOf cX3_pledgesOf 4 (some .int) 1 := ⟨lw_gm (i := 557) (by decide +kernel) rfl, lw_gm (i := 19) (by decide +kernel) rfl, by decide +kernel, by decide +kernel⟩
theorem iwX3_pledgesOf : k_iw yX3_pledgesOf := ⟨lw_gm (i := 556) (by decide +kernel) rfl, lw_gm (i := 13) (by decide +kernel) rfl⟩
theorem mwX3_dropOldPledges : k_mw yX3_dropOldPledges cX3_dropOldPledges 2 none 0 := ⟨lw_gm (i := 461) (by decide +kernel) rfl, lw_gm (i := 19) (by decide +kernel) rfl, by decide +kernel, by decide +kernel⟩
theorem iwX3_dropOldPledges : k_iw yX3_dropOldPledges := ⟨lw_gm (i := 460) (by decide +kernel) rfl, lw_gm (i := 3) (by decide +kernel) rfl⟩
theorem mwX3_today : k_mw yX3_today cX3_today 1 (some .int) 0 := ⟨lw_gm (i := 465) (by decide +kernel) rfl, lw_gm (i := 19) (by decide +kernel) rfl, by decide +kernel, by decide +kernel⟩
theorem iwX3_today : k_iw yX3_today := ⟨lw_gm (i := 463) (by decide +kernel) rfl, lw_gm (i := 464) (by decide +kernel) rfl⟩
theorem mwX3_letPass : k_mw yX3_letPass cX3_letPass 3 (some .int) 1 := ⟨lw_gm (i := 453) (by decide +kernel) rfl, lw_gm (i := 19) (by decide +kernel) rfl, by decide +kernel, by decide +kernel⟩
theorem iwX3_letPass : k_iw yX3_letPass := ⟨lw_gm (i := 451) (by decide +kernel) rfl, lw_gm (i := 452) (by decide +kernel) rfl⟩
theorem mwX3_step : k_mw yX3_step cX3_step 2 none 0 := ⟨lw_gm (i := 457) (by decide +kernel) rfl, lw_gm (i := 19) (by decide +kernel) rfl, by decide +kernel, by decide +kernel⟩
theorem iwX3_step : k_iw yX3_step := ⟨lw_gm (i := 455) (by decide +kernel) rfl, lw_gm (i := 456) (by decide +kernel) rfl⟩
theorem mwX3_seaAt : k_mw yX3_seaAt cX3_seaAt 8 (some .int) 1 := ⟨lw_gm (i := 473) (by decide +kernel) rfl, lw_gm (i := 19) (by decide +kernel) rfl, by decide +kernel, by decide +kernel⟩
theorem iwX3_seaAt : k_iw yX3_seaAt := ⟨lw_gm (i := 471) (by decide +kernel) rfl, lw_gm (i := 472) (by decide +kernel) rfl⟩
theorem mwX3_level : k_mw yX3_level cX3_level 1 (some .int) 0 := ⟨lw_gm (i := 487) (by decide +kernel) rfl, lw_gm (i := 19) (by decide +kernel) rfl, by decide +kernel, by decide +kernel⟩
theorem iwX3_level : k_iw yX3_level := ⟨lw_gm (i := 486) (by decide +kernel) rfl, lw_gm (i := 5) (by decide +kernel) rfl⟩
theorem mwX3_flowIn : k_mw yX3_flowIn cX3_flowIn 4 none 1 := ⟨lw_gm (i := 483) (by decide +kernel) rfl, lw_gm (i := 19) (by decide +kernel) rfl, by decide +kernel, by decide +kernel⟩
theorem iwX3_flowIn : k_iw yX3_flowIn := ⟨lw_gm (i := 482) (by decide +kernel) rfl, lw_gm (i := 4) (by decide +kernel) rfl⟩
theorem mwX3_leakOut : k_mw yX3_leakOut cX3_leakOut 5 none 1 := ⟨lw_gm (i := 494) (by decide +kernel) rfl, lw_gm (i := 19) (by decide +kernel) rfl, by decide +kernel, by decide +kernel⟩
theorem iwX3_leakOut : k_iw yX3_leakOut := ⟨lw_gm (i := 493) (by decide +kernel) rfl, lw_gm (i := 6) (by decide +kernel) rfl⟩
theorem mwX3_grind : k_mw yX3_grind cX3_grind 4 none 1 := ⟨lw_gm (i := 498) (by decide +kernel) rfl, lw_gm (i := 19) (by decide +kernel) rfl, by decide +kernel, by decide +kernel⟩
theorem iwX3_grind : k_iw yX3_grind := ⟨lw_gm (i := 497) (by decide +kernel) rfl, lw_gm (i := 7) (by decide +kernel) rfl⟩
theorem mwX3_putOnStones : k_mw yX3_putOnStones cX3_putOnStones 3 none 1 := ⟨lw_gm (i := 506) (by decide +kernel) rfl, lw_gm (i := 19) (by decide +kernel) rfl, by decide +kernel, by decide +kernel⟩
theorem iwX3_putOnStones : k_iw yX3_putOnStones := ⟨lw_gm (i := 505) (by decide +kernel) rfl, lw_gm (i := 9) (by decide +kernel) rfl⟩
theorem mwX3_grindSack : k_mw yX3_grindSack cX3_grindSack 4 none 2 := ⟨lw_gm (i := 510) (by decide +kernel) rfl, lw_gm (i := 19) (by decide +kernel) rfl, by decide +kernel, by decide +kernel⟩
theorem iwX3_grindSack : k_iw yX3_grindSack := ⟨lw_gm (i := 509) (by decide +kernel) rfl, lw_gm (i := 10) (by decide +kernel) rfl⟩
theorem mwX3_tellPond : k_mw yX3_tellPond cX3_tellPond 2 (some .int) 1 := ⟨lw_gm (i := 525) (by decide +kernel) rfl, lw_gm (i := 19) (by decide +kernel) rfl, by decide +kernel, by decide +kernel⟩
theorem iwX3_tellPond : k_iw yX3_tellPond := ⟨lw_gm (i := 523) (by decide +kernel) rfl, lw_gm (i := 524) (by decide +kernel) rfl⟩
theorem mwX3_countOf : k_mw yX3_countOf cX3_countOf 2 (some .int) 1 := ⟨lw_gm (i := 549) (by decide +kernel) rfl, lw_gm (i := 19) (by decide +kernel) rfl, by decide +kernel, by decide +kernel⟩
theorem iwX3_countOf : k_iw yX3_countOf := ⟨lw_gm (i := 547) (by decide +kernel) rfl, lw_gm (i := 548) (by decide +kernel) rfl⟩
theorem mwX5_takeFrom : k_mw yX5_takeFrom cX5_takeFrom 2 none 1 := ⟨lw_gm (i := 312) (by decide +kernel) rfl, lw_gm (i := 22) (by decide +kernel) rfl, by decide +kernel, by decide +kernel⟩
theorem iwX5_takeFrom : k_iw yX5_takeFrom := ⟨lw_gm (i := 310) (by decide +kernel) rfl, lw_gm (i := 311) (by decide +kernel) rfl⟩
theorem mwX5_begin : k_mw yX5_begin cX5_begin 5 none 4 := ⟨lw_gm (i := 382) (by decide +kernel) rfl, lw_gm (i := 22) (by decide +kernel) rfl, by decide +kernel, by decide +kernel⟩
theorem iwX5_begin : k_iw yX5_begin := ⟨lw_gm (i := 380) (by decide +kernel) rfl, lw_gm (i := 381) (by decide +kernel) rfl⟩
theorem mwX5_addGround : k_mw yX5_addGround cX5_addGround 2 none 1 := ⟨lw_gm (i := 517) (by decide +kernel) rfl, lw_gm (i := 22) (by decide +kernel) rfl, by decide +kernel, by decide +kernel⟩
theorem iwX5_addGround : k_iw yX5_addGround := ⟨lw_gm (i := 515) (by decide +kernel) rfl, lw_gm (i := 516) (by decide +kernel) rfl⟩
theorem mwX5_endPledge : k_mw yX5_endPledge cX5_endPledge 1 none 0 := ⟨lw_gm (i := 386) (by decide +kernel) rfl, lw_gm (i := 22) (by decide +kernel) rfl, by decide +kernel, by decide +kernel⟩
theorem iwX5_endPledge : k_iw yX5_endPledge := ⟨lw_gm (i := 384) (by decide +kernel) rfl, lw_gm (i := 385) (by decide +kernel) rfl⟩
theorem mwX5_fall : k_mw yX5_fall cX5_fall 1 none 0 := ⟨lw_gm (i := 469) (by decide +kernel) rfl, lw_gm (i := 22) (by decide +kernel) rfl, by decide +kernel, by decide +kernel⟩
theorem iwX5_fall : k_iw yX5_fall := ⟨lw_gm (i := 467) (by decide +kernel) rfl, lw_gm (i := 468) (by decide +kernel) rfl⟩
theorem mwX5_hasPledge : k_mw yX5_hasPledge cX5_hasPledge 1 (some .boolean) 0 := ⟨lw_gm (i := 415) (by decide +kernel) rfl, lw_gm (i := 22) (by decide +kernel) rfl, by decide +kernel, by decide +kernel⟩
theorem iwX5_hasPledge : k_iw yX5_hasPledge := ⟨lw_gm (i := 413) (by decide +kernel) rfl, lw_gm (i := 414) (by decide +kernel) rfl⟩
theorem mwX5_grain : k_mw yX5_grain cX5_grain 1 (some .int) 0 := ⟨lw_gm (i := 403) (by decide +kernel) rfl, lw_gm (i := 22) (by decide +kernel) rfl, by decide +kernel, by decide +kernel⟩
theorem iwX5_grain : k_iw yX5_grain := ⟨lw_gm (i := 401) (by decide +kernel) rfl, lw_gm (i := 402) (by decide +kernel) rfl⟩
theorem mwX5_flour : k_mw yX5_flour cX5_flour 1 (some .int) 0 := ⟨lw_gm (i := 419) (by decide +kernel) rfl, lw_gm (i := 22) (by decide +kernel) rfl, by decide +kernel, by decide +kernel⟩
theorem iwX5_flour : k_iw yX5_flour := ⟨lw_gm (i := 417) (by decide +kernel) rfl, lw_gm (i := 418) (by decide +kernel) rfl⟩
theorem mwX5_isOf : k_mw yX5_isOf cX5_isOf 3 (some .boolean) 2 := ⟨lw_gm (i := 561) (by decide +kernel) rfl, lw_gm (i := 22) (by decide +kernel) rfl, by decide +kernel, by decide +kernel⟩
theorem iwX5_isOf : k_iw yX5_isOf := ⟨lw_gm (i := 559) (by decide +kernel) rfl, lw_gm (i := 560) (by decide +kernel) rfl⟩
theorem mwX5_tell : k_mw yX5_tell cX5_tell 2 (some .int) 1 := ⟨lw_gm (i := 443) (by decide +kernel) rfl, lw_gm (i := 22) (by decide +kernel) rfl, by decide +kernel, by decide +kernel⟩
theorem iwX5_tell : k_iw yX5_tell := ⟨lw_gm (i := 441) (by decide +kernel) rfl, lw_gm (i := 442) (by decide +kernel) rfl⟩
theorem mwX6_set : k_mw yX6_set cX6_set 3 (some .int) 2 := ⟨lw_gm (i := 285) (by decide +kernel) rfl, lw_gm (i := 18) (by decide +kernel) rfl, by decide +kernel, by decide +kernel⟩
theorem iwX6_set : k_iw yX6_set := ⟨lw_gm (i := 283) (by decide +kernel) rfl, lw_gm (i := 284) (by decide +kernel) rfl⟩
theorem mwX6_lock : k_mw yX6_lock cX6_lock 2 (some .int) 1 := ⟨lw_gm (i := 332) (by decide +kernel) rfl, lw_gm (i := 18) (by decide +kernel) rfl, by decide +kernel, by decide +kernel⟩
theorem iwX6_lock : k_iw yX6_lock := ⟨lw_gm (i := 330) (by decide +kernel) rfl, lw_gm (i := 331) (by decide +kernel) rfl⟩
theorem mwX6_gate : k_mw yX6_gate cX6_gate 2 (some .int) 1 := ⟨lw_gm (i := 340) (by decide +kernel) rfl, lw_gm (i := 18) (by decide +kernel) rfl, by decide +kernel, by decide +kernel⟩
theorem iwX6_gate : k_iw yX6_gate := ⟨lw_gm (i := 338) (by decide +kernel) rfl, lw_gm (i := 339) (by decide +kernel) rfl⟩
theorem mwX6_kind : k_mw yX6_kind cX6_kind 4 (some .int) 3 := ⟨lw_gm (i := 348) (by decide +kernel) rfl, lw_gm (i := 18) (by decide +kernel) rfl, by decide +kernel, by decide +kernel⟩
theorem iwX6_kind : k_iw yX6_kind := ⟨lw_gm (i := 346) (by decide +kernel) rfl, lw_gm (i := 347) (by decide +kernel) rfl⟩
theorem mwX6_farmer : k_mw yX6_farmer cX6_farmer 1 (some .int) 0 := ⟨lw_gm (i := 358) (by decide +kernel) rfl, lw_gm (i := 18) (by decide +kernel) rfl, by decide +kernel, by decide +kernel⟩
theorem iwX6_farmer : k_iw yX6_farmer := ⟨lw_gm (i := 356) (by decide +kernel) rfl, lw_gm (i := 357) (by decide +kernel) rfl⟩
theorem mwX6_bring : k_mw yX6_bring cX6_bring 4 (some .int) 3 := ⟨lw_gm (i := 366) (by decide +kernel) rfl, lw_gm (i := 18) (by decide +kernel) rfl, by decide +kernel, by decide +kernel⟩
theorem iwX6_bring : k_iw yX6_bring := ⟨lw_gm (i := 364) (by decide +kernel) rfl, lw_gm (i := 365) (by decide +kernel) rfl⟩
theorem mwX6_withdraw : k_mw yX6_withdraw cX6_withdraw 2 (some .int) 1 := ⟨lw_gm (i := 390) (by decide +kernel) rfl, lw_gm (i := 18) (by decide +kernel) rfl, by decide +kernel, by decide +kernel⟩
theorem iwX6_withdraw : k_iw yX6_withdraw := ⟨lw_gm (i := 388) (by decide +kernel) rfl, lw_gm (i := 389) (by decide +kernel) rfl⟩
theorem mwX6_fetch : k_mw yX6_fetch cX6_fetch 2 (some .int) 1 := ⟨lw_gm (i := 407) (by decide +kernel) rfl, lw_gm (i := 18) (by decide +kernel) rfl, by decide +kernel, by decide +kernel⟩
theorem iwX6_fetch : k_iw yX6_fetch := ⟨lw_gm (i := 405) (by decide +kernel) rfl, lw_gm (i := 406) (by decide +kernel) rfl⟩
theorem mwX6_kindOf : k_mw yX6_kindOf cX6_kindOf 3 (some .int) 2 := ⟨lw_gm (i := 639) (by decide +kernel) rfl, lw_gm (i := 18) (by decide +kernel) rfl, by decide +kernel, by decide +kernel⟩
theorem iwX6_kindOf : k_iw yX6_kindOf := ⟨lw_gm (i := 637) (by decide +kernel) rfl, lw_gm (i := 638) (by decide +kernel) rfl⟩
theorem mwX6_farmerOf : k_mw yX6_farmerOf cX6_farmerOf 3 (some .int) 2 := ⟨lw_gm (i := 655) (by decide +kernel) rfl, lw_gm (i := 18) (by decide +kernel) rfl, by decide +kernel, by decide +kernel⟩
theorem iwX6_farmerOf : k_iw yX6_farmerOf := ⟨lw_gm (i := 653) (by decide +kernel) rfl, lw_gm (i := 654) (by decide +kernel) rfl⟩
theorem mwX6_sackOf : k_mw yX6_sackOf cX6_sackOf 3 (some .int) 2 := ⟨lw_gm (i := 423) (by decide +kernel) rfl, lw_gm (i := 18) (by decide +kernel) rfl, by decide +kernel, by decide +kernel⟩
theorem iwX6_sackOf : k_iw yX6_sackOf := ⟨lw_gm (i := 421) (by decide +kernel) rfl, lw_gm (i := 422) (by decide +kernel) rfl⟩
theorem mwX6_queueAt : k_mw yX6_queueAt cX6_queueAt 2 (some .int) 1 := ⟨lw_gm (i := 582) (by decide +kernel) rfl, lw_gm (i := 18) (by decide +kernel) rfl, by decide +kernel, by decide +kernel⟩
theorem iwX6_queueAt : k_iw yX6_queueAt := ⟨lw_gm (i := 580) (by decide +kernel) rfl, lw_gm (i := 581) (by decide +kernel) rfl⟩
theorem mwX6_account : k_mw yX6_account cX6_account 5 (some .int) 3 := ⟨lw_gm (i := 625) (by decide +kernel) rfl, lw_gm (i := 18) (by decide +kernel) rfl, by decide +kernel, by decide +kernel⟩
theorem iwX6_account : k_iw yX6_account := ⟨lw_gm (i := 623) (by decide +kernel) rfl, lw_gm (i := 624) (by decide +kernel) rfl⟩
theorem mwX6_pledge : k_mw yX6_pledge cX6_pledge 3 (some .int) 2 := ⟨lw_gm (i := 666) (by decide +kernel) rfl, lw_gm (i := 18) (by decide +kernel) rfl, by decide +kernel, by decide +kernel⟩
theorem iwX6_pledge : k_iw yX6_pledge := ⟨lw_gm (i := 664) (by decide +kernel) rfl, lw_gm (i := 665) (by decide +kernel) rfl⟩
theorem mwX6_owed : k_mw yX6_owed cX6_owed 2 (some .int) 1 := ⟨lw_gm (i := 608) (by decide +kernel) rfl, lw_gm (i := 18) (by decide +kernel) rfl, by decide +kernel, by decide +kernel⟩
theorem iwX6_owed : k_iw yX6_owed := ⟨lw_gm (i := 606) (by decide +kernel) rfl, lw_gm (i := 607) (by decide +kernel) rfl⟩
theorem mwX6_redeem : k_mw yX6_redeem cX6_redeem 2 (some .int) 1 := ⟨lw_gm (i := 680) (by decide +kernel) rfl, lw_gm (i := 18) (by decide +kernel) rfl, by decide +kernel, by decide +kernel⟩
theorem iwX6_redeem : k_iw yX6_redeem := ⟨lw_gm (i := 678) (by decide +kernel) rfl, lw_gm (i := 679) (by decide +kernel) rfl⟩
theorem mwX6_pledgeAt : k_mw yX6_pledgeAt cX6_pledgeAt 4 (some .int) 2 := ⟨lw_gm (i := 592) (by decide +kernel) rfl, lw_gm (i := 18) (by decide +kernel) rfl, by decide +kernel, by decide +kernel⟩
theorem iwX6_pledgeAt : k_iw yX6_pledgeAt := ⟨lw_gm (i := 590) (by decide +kernel) rfl, lw_gm (i := 591) (by decide +kernel) rfl⟩
theorem mwX6_pass : k_mw yX6_pass cX6_pass 2 (some .int) 1 := ⟨lw_gm (i := 449) (by decide +kernel) rfl, lw_gm (i := 18) (by decide +kernel) rfl, by decide +kernel, by decide +kernel⟩
theorem iwX6_pass : k_iw yX6_pass := ⟨lw_gm (i := 447) (by decide +kernel) rfl, lw_gm (i := 448) (by decide +kernel) rfl⟩
theorem mwX6_seaIn : k_mw yX6_seaIn cX6_seaIn 2 (some .int) 1 := ⟨lw_gm (i := 620) (by decide +kernel) rfl, lw_gm (i := 18) (by decide +kernel) rfl, by decide +kernel, by decide +kernel⟩
theorem iwX6_seaIn : k_iw yX6_seaIn := ⟨lw_gm (i := 618) (by decide +kernel) rfl, lw_gm (i := 619) (by decide +kernel) rfl⟩
theorem mwX6_pond : k_mw yX6_pond cX6_pond 2 (some .int) 1 := ⟨lw_gm (i := 521) (by decide +kernel) rfl, lw_gm (i := 18) (by decide +kernel) rfl, by decide +kernel, by decide +kernel⟩
theorem iwX6_pond : k_iw yX6_pond := ⟨lw_gm (i := 519) (by decide +kernel) rfl, lw_gm (i := 520) (by decide +kernel) rfl⟩
theorem mwX6_foresee : k_mw yX6_foresee cX6_foresee 3 (some .int) 1 := ⟨lw_gm (i := 529) (by decide +kernel) rfl, lw_gm (i := 18) (by decide +kernel) rfl, by decide +kernel, by decide +kernel⟩
theorem iwX6_foresee : k_iw yX6_foresee := ⟨lw_gm (i := 527) (by decide +kernel) rfl, lw_gm (i := 528) (by decide +kernel) rfl⟩
theorem mwX6_bestGate : k_mw yX6_bestGate cX6_bestGate 6 (some .int) 1 := ⟨lw_gm (i := 537) (by decide +kernel) rfl, lw_gm (i := 18) (by decide +kernel) rfl, by decide +kernel, by decide +kernel⟩
theorem iwX6_bestGate : k_iw yX6_bestGate := ⟨lw_gm (i := 535) (by decide +kernel) rfl, lw_gm (i := 536) (by decide +kernel) rfl⟩
theorem mwX6_count : k_mw yX6_count cX6_count 2 (some .int) 1 := ⟨lw_gm (i := 545) (by decide +kernel) rfl, lw_gm (i := 18) (by decide +kernel) rfl, by decide +kernel, by decide +kernel⟩
theorem iwX6_count : k_iw yX6_count := ⟨lw_gm (i := 543) (by decide +kernel) rfl, lw_gm (i := 544) (by decide +kernel) rfl⟩
theorem mwX6_undo : k_mw yX6_undo cX6_undo 1 (some .int) 0 := ⟨lw_gm (i := 565) (by decide +kernel) rfl, lw_gm (i := 18) (by decide +kernel) rfl, by decide +kernel, by decide +kernel⟩
theorem iwX6_undo : k_iw yX6_undo := ⟨lw_gm (i := 563) (by decide +kernel) rfl, lw_gm (i := 564) (by decide +kernel) rfl⟩
theorem mwX6_groundBy : k_mw yX6_groundBy cX6_groundBy 4 (some .int) 2 := ⟨lw_gm (i := 541) (by decide +kernel) rfl, lw_gm (i := 18) (by decide +kernel) rfl, by decide +kernel, by decide +kernel⟩
theorem iwX6_groundBy : k_iw yX6_groundBy := ⟨lw_gm (i := 540) (by decide +kernel) rfl, lw_gm (i := 11) (by decide +kernel) rfl⟩
theorem mwX6_within : k_mw yX6_within cX6_within 3 (some .boolean) 3 := ⟨lw_gm (i := 319) (by decide +kernel) rfl, lw_gm (i := 18) (by decide +kernel) rfl, by decide +kernel, by decide +kernel⟩
theorem swX6_within : Cond.static yX6_within ∈ lw_g := lw_gm (i := 318) (by decide +kernel) rfl
theorem mwX6_quotient : k_mw yX6_quotient cX6_quotient 2 (some .int) 2 := ⟨lw_gm (i := 476) (by decide +kernel) rfl, lw_gm (i := 18) (by decide +kernel) rfl, by decide +kernel, by decide +kernel⟩
theorem swX6_quotient : Cond.static yX6_quotient ∈ lw_g := lw_gm (i := 475) (by decide +kernel) rfl
theorem mwL_cell : k_mw yL_cell cL_cell 2 (some .int) 2 := ⟨lw_gm (i := 573) (by decide +kernel) rfl, lw_gm (i := 17) (by decide +kernel) rfl, by decide +kernel, by decide +kernel⟩
theorem swL_cell : Cond.static yL_cell ∈ lw_g := lw_gm (i := 572) (by decide +kernel) rfl
theorem mwL_accounts : k_mw yL_accounts cL_accounts 7 (some .boolean) 1 := ⟨lw_gm (i := 635) (by decide +kernel) rfl, lw_gm (i := 17) (by decide +kernel) rfl, by decide +kernel, by decide +kernel⟩
theorem swL_accounts : Cond.static yL_accounts ∈ lw_g := lw_gm (i := 634) (by decide +kernel) rfl
theorem mwL_farmers : k_mw yL_farmers cL_farmers 5 (some .boolean) 1 := ⟨lw_gm (i := 651) (by decide +kernel) rfl, lw_gm (i := 17) (by decide +kernel) rfl, by decide +kernel, by decide +kernel⟩
theorem swL_farmers : Cond.static yL_farmers ∈ lw_g := lw_gm (i := 650) (by decide +kernel) rfl
theorem mwL_holds : k_mw yL_holds cL_holds 7 (some .boolean) 1 := ⟨lw_gm (i := 578) (by decide +kernel) rfl, lw_gm (i := 17) (by decide +kernel) rfl, by decide +kernel, by decide +kernel⟩
theorem swL_holds : Cond.static yL_holds ∈ lw_g := lw_gm (i := 577) (by decide +kernel) rfl
theorem mwL_money : k_mw yL_money cL_money 9 (some .boolean) 3 := ⟨lw_gm (i := 662) (by decide +kernel) rfl, lw_gm (i := 17) (by decide +kernel) rfl, by decide +kernel, by decide +kernel⟩
theorem swL_money : Cond.static yL_money ∈ lw_g := lw_gm (i := 661) (by decide +kernel) rfl
theorem mlL_85 : Cond.methodLink RL 85 yX6_set ∈ lw_g := lw_gm (i := 282) (by decide +kernel) rfl
theorem mlX6_33 : Cond.methodLink RX6 33 yX1_hold ∈ lw_g := lw_gm (i := 286) (by decide +kernel) rfl
theorem mlX1_25 : Cond.methodLink RX1 25 yX3_copyFrom ∈ lw_g := lw_gm (i := 290) (by decide +kernel) rfl
theorem mlX3_63 : Cond.methodLink RX3 63 yX3_copyGrainFrom ∈ lw_g := lw_gm (i := 297) (by decide +kernel) rfl
theorem mlX3_100 : Cond.methodLink RX3 100 yX2_takeFrom ∈ lw_g := lw_gm (i := 301) (by decide +kernel) rfl
theorem mlX3_104 : Cond.methodLink RX3 104 yX0_takeFrom ∈ lw_g := lw_gm (i := 305) (by decide +kernel) rfl
theorem mlX3_107 : Cond.methodLink RX3 107 yX5_takeFrom ∈ lw_g := lw_gm (i := 309) (by decide +kernel) rfl
theorem mlX6_37 : Cond.methodLink RX6 37 yX3_changeSetting ∈ lw_g := lw_gm (i := 313) (by decide +kernel) rfl
theorem mlX6_41 : Cond.methodLink RX6 41 yX1_keepIfDone ∈ lw_g := lw_gm (i := 325) (by decide +kernel) rfl
theorem mlL_88 : Cond.methodLink RL 88 yX6_lock ∈ lw_g := lw_gm (i := 329) (by decide +kernel) rfl
theorem mlX6_48 : Cond.methodLink RX6 48 yX3_changeLock ∈ lw_g := lw_gm (i := 333) (by decide +kernel) rfl
theorem mlL_82 : Cond.methodLink RL 82 yX6_gate ∈ lw_g := lw_gm (i := 337) (by decide +kernel) rfl
theorem mlX6_51 : Cond.methodLink RX6 51 yX3_changeOpening ∈ lw_g := lw_gm (i := 341) (by decide +kernel) rfl
theorem mlL_73 : Cond.methodLink RL 73 yX6_kind ∈ lw_g := lw_gm (i := 345) (by decide +kernel) rfl
theorem mlX6_54 : Cond.methodLink RX6 54 yX3_addKind ∈ lw_g := lw_gm (i := 349) (by decide +kernel) rfl
theorem mlL_76 : Cond.methodLink RL 76 yX6_farmer ∈ lw_g := lw_gm (i := 355) (by decide +kernel) rfl
theorem mlX6_58 : Cond.methodLink RX6 58 yX3_addFarmer ∈ lw_g := lw_gm (i := 359) (by decide +kernel) rfl
theorem mlL_79 : Cond.methodLink RL 79 yX6_bring ∈ lw_g := lw_gm (i := 363) (by decide +kernel) rfl
theorem mlX6_62 : Cond.methodLink RX6 62 yX3_addSack ∈ lw_g := lw_gm (i := 367) (by decide +kernel) rfl
theorem mlX3_138 : Cond.methodLink RX3 138 yX3_hasFarmer ∈ lw_g := lw_gm (i := 371) (by decide +kernel) rfl
theorem mlX3_142 : Cond.methodLink RX3 142 yX3_hasKind ∈ lw_g := lw_gm (i := 375) (by decide +kernel) rfl
theorem mlX3_145 : Cond.methodLink RX3 145 yX5_begin ∈ lw_g := lw_gm (i := 379) (by decide +kernel) rfl
theorem mlX5_68 : Cond.methodLink RX5 68 yX5_endPledge ∈ lw_g := lw_gm (i := 383) (by decide +kernel) rfl
theorem mlL_91 : Cond.methodLink RL 91 yX6_withdraw ∈ lw_g := lw_gm (i := 387) (by decide +kernel) rfl
theorem mlX6_65 : Cond.methodLink RX6 65 yX3_withdrawSack ∈ lw_g := lw_gm (i := 391) (by decide +kernel) rfl
theorem mlX3_149 : Cond.methodLink RX3 149 yX3_hasSack ∈ lw_g := lw_gm (i := 395) (by decide +kernel) rfl
theorem mlX3_156 : Cond.methodLink RX3 156 yX5_grain ∈ lw_g := lw_gm (i := 400) (by decide +kernel) rfl
theorem mlL_94 : Cond.methodLink RL 94 yX6_fetch ∈ lw_g := lw_gm (i := 404) (by decide +kernel) rfl
theorem mlX6_68 : Cond.methodLink RX6 68 yX3_fetchSack ∈ lw_g := lw_gm (i := 408) (by decide +kernel) rfl
theorem mlX3_163 : Cond.methodLink RX3 163 yX5_hasPledge ∈ lw_g := lw_gm (i := 412) (by decide +kernel) rfl
theorem mlX3_167 : Cond.methodLink RX3 167 yX5_flour ∈ lw_g := lw_gm (i := 416) (by decide +kernel) rfl
theorem mlL_15 : Cond.methodLink RL 15 yX6_sackOf ∈ lw_g := lw_gm (i := 420) (by decide +kernel) rfl
theorem mlX6_89 : Cond.methodLink RX6 89 yX3_hasSack ∈ lw_g := lw_gm (i := 424) (by decide +kernel) rfl
theorem mlX6_75 : Cond.methodLink RX6 75 yX6_within ∈ lw_g := lw_gm (i := 425) (by decide +kernel) rfl
theorem mlX6_92 : Cond.methodLink RX6 92 yX3_placeInQueue ∈ lw_g := lw_gm (i := 427) (by decide +kernel) rfl
theorem mlX3_190 : Cond.methodLink RX3 190 yX3_waitsAheadOf ∈ lw_g := lw_gm (i := 432) (by decide +kernel) rfl
theorem mlX3_196 : Cond.methodLink RX3 196 yX3_rankInQueue ∈ lw_g := lw_gm (i := 436) (by decide +kernel) rfl
theorem mlX6_99 : Cond.methodLink RX6 99 yX5_tell ∈ lw_g := lw_gm (i := 440) (by decide +kernel) rfl
theorem mlX5_71 : Cond.methodLink RX5 71 yX5_grain ∈ lw_g := lw_gm (i := 444) (by decide +kernel) rfl
theorem mlX5_75 : Cond.methodLink RX5 75 yX5_flour ∈ lw_g := lw_gm (i := 445) (by decide +kernel) rfl
theorem mlL_102 : Cond.methodLink RL 102 yX6_pass ∈ lw_g := lw_gm (i := 446) (by decide +kernel) rfl
theorem mlX6_134 : Cond.methodLink RX6 134 yX3_letPass ∈ lw_g := lw_gm (i := 450) (by decide +kernel) rfl
theorem mlX3_250 : Cond.methodLink RX3 250 yX3_step ∈ lw_g := lw_gm (i := 454) (by decide +kernel) rfl
theorem mlX3_253 : Cond.methodLink RX3 253 yX3_dropOldPledges ∈ lw_g := lw_gm (i := 458) (by decide +kernel) rfl
theorem mlX3_223 : Cond.methodLink RX3 223 yX3_today ∈ lw_g := lw_gm (i := 462) (by decide +kernel) rfl
theorem mlX3_247 : Cond.methodLink RX3 247 yX5_fall ∈ lw_g := lw_gm (i := 466) (by decide +kernel) rfl
theorem mlX3_256 : Cond.methodLink RX3 256 yX3_seaAt ∈ lw_g := lw_gm (i := 470) (by decide +kernel) rfl
theorem mlX3_259 : Cond.methodLink RX3 259 yX3_flowIn ∈ lw_g := lw_gm (i := 480) (by decide +kernel) rfl
theorem mlX3_277 : Cond.methodLink RX3 277 yX3_level ∈ lw_g := lw_gm (i := 484) (by decide +kernel) rfl
theorem mlX3_263 : Cond.methodLink RX3 263 yX3_leakOut ∈ lw_g := lw_gm (i := 491) (by decide +kernel) rfl
theorem mlX3_266 : Cond.methodLink RX3 266 yX3_grind ∈ lw_g := lw_gm (i := 495) (by decide +kernel) rfl
theorem mlX3_283 : Cond.methodLink RX3 283 yX3_firstOfQueue ∈ lw_g := lw_gm (i := 499) (by decide +kernel) rfl
theorem mlX3_286 : Cond.methodLink RX3 286 yX3_putOnStones ∈ lw_g := lw_gm (i := 503) (by decide +kernel) rfl
theorem mlX3_289 : Cond.methodLink RX3 289 yX3_grindSack ∈ lw_g := lw_gm (i := 507) (by decide +kernel) rfl
theorem mlX3_299 : Cond.methodLink RX3 299 yX5_addGround ∈ lw_g := lw_gm (i := 514) (by decide +kernel) rfl
theorem mlL_29 : Cond.methodLink RL 29 yX6_pond ∈ lw_g := lw_gm (i := 518) (by decide +kernel) rfl
theorem mlX6_147 : Cond.methodLink RX6 147 yX3_tellPond ∈ lw_g := lw_gm (i := 522) (by decide +kernel) rfl
theorem mlL_105 : Cond.methodLink RL 105 yX6_foresee ∈ lw_g := lw_gm (i := 526) (by decide +kernel) rfl
theorem mlX6_154 : Cond.methodLink RX6 154 yX3_copyFrom ∈ lw_g := lw_gm (i := 531) (by decide +kernel) rfl
theorem mlX6_157 : Cond.methodLink RX6 157 yX3_step ∈ lw_g := lw_gm (i := 532) (by decide +kernel) rfl
theorem mlL_109 : Cond.methodLink RL 109 yX6_bestGate ∈ lw_g := lw_gm (i := 534) (by decide +kernel) rfl
theorem mlX6_160 : Cond.methodLink RX6 160 yX6_groundBy ∈ lw_g := lw_gm (i := 538) (by decide +kernel) rfl
theorem mlL_9 : Cond.methodLink RL 9 yX6_count ∈ lw_g := lw_gm (i := 542) (by decide +kernel) rfl
theorem mlX6_173 : Cond.methodLink RX6 173 yX3_countOf ∈ lw_g := lw_gm (i := 546) (by decide +kernel) rfl
theorem mlX3_302 : Cond.methodLink RX3 302 yX3_sacksInStage ∈ lw_g := lw_gm (i := 550) (by decide +kernel) rfl
theorem mlX3_178 : Cond.methodLink RX3 178 yX3_pledgesOf ∈ lw_g := lw_gm (i := 554) (by decide +kernel) rfl
theorem mlX3_182 : Cond.methodLink RX3 182 yX5_isOf ∈ lw_g := lw_gm (i := 558) (by decide +kernel) rfl
theorem mlL_65 : Cond.methodLink RL 65 yX6_undo ∈ lw_g := lw_gm (i := 562) (by decide +kernel) rfl
theorem mlX6_176 : Cond.methodLink RX6 176 yX1_restore ∈ lw_g := lw_gm (i := 566) (by decide +kernel) rfl
theorem mlL_69 : Cond.methodLink RL 69 yL_cell ∈ lw_g := lw_gm (i := 571) (by decide +kernel) rfl
theorem mlL_62 : Cond.methodLink RL 62 yL_holds ∈ lw_g := lw_gm (i := 576) (by decide +kernel) rfl
theorem mlL_32 : Cond.methodLink RL 32 yX6_queueAt ∈ lw_g := lw_gm (i := 579) (by decide +kernel) rfl
theorem mlX6_104 : Cond.methodLink RX6 104 yX3_sackAtPlace ∈ lw_g := lw_gm (i := 583) (by decide +kernel) rfl
theorem mlX3_193 : Cond.methodLink RX3 193 yX3_placeInQueue ∈ lw_g := lw_gm (i := 587) (by decide +kernel) rfl
theorem mlL_36 : Cond.methodLink RL 36 yX6_pledgeAt ∈ lw_g := lw_gm (i := 589) (by decide +kernel) rfl
theorem mlX6_128 : Cond.methodLink RX6 128 yX3_sackOfPledge ∈ lw_g := lw_gm (i := 593) (by decide +kernel) rfl
theorem mlX3_244 : Cond.methodLink RX3 244 yX3_pledgesAheadOf ∈ lw_g := lw_gm (i := 597) (by decide +kernel) rfl
theorem mlX6_131 : Cond.methodLink RX6 131 yX3_tellPledge ∈ lw_g := lw_gm (i := 601) (by decide +kernel) rfl
theorem mlL_39 : Cond.methodLink RL 39 yX6_owed ∈ lw_g := lw_gm (i := 605) (by decide +kernel) rfl
theorem mlX6_116 : Cond.methodLink RX6 116 yX5_hasPledge ∈ lw_g := lw_gm (i := 609) (by decide +kernel) rfl
theorem mlX6_120 : Cond.methodLink RX6 120 yX3_debtOf ∈ lw_g := lw_gm (i := 610) (by decide +kernel) rfl
theorem mlL_42 : Cond.methodLink RL 42 yX6_seaIn ∈ lw_g := lw_gm (i := 617) (by decide +kernel) rfl
theorem mlX6_141 : Cond.methodLink RX6 141 yX3_seaAt ∈ lw_g := lw_gm (i := 621) (by decide +kernel) rfl
theorem mlL_19 : Cond.methodLink RL 19 yX6_account ∈ lw_g := lw_gm (i := 622) (by decide +kernel) rfl
theorem mlX6_83 : Cond.methodLink RX6 83 yX3_hasFarmer ∈ lw_g := lw_gm (i := 626) (by decide +kernel) rfl
theorem mlX6_71 : Cond.methodLink RX6 71 yX3_hasKind ∈ lw_g := lw_gm (i := 627) (by decide +kernel) rfl
theorem mlX6_107 : Cond.methodLink RX6 107 yX3_sumOf ∈ lw_g := lw_gm (i := 628) (by decide +kernel) rfl
theorem mlX3_186 : Cond.methodLink RX3 186 yX5_tell ∈ lw_g := lw_gm (i := 632) (by decide +kernel) rfl
theorem mlL_45 : Cond.methodLink RL 45 yL_accounts ∈ lw_g := lw_gm (i := 633) (by decide +kernel) rfl
theorem mlL_23 : Cond.methodLink RL 23 yX6_kindOf ∈ lw_g := lw_gm (i := 636) (by decide +kernel) rfl
theorem mlX6_80 : Cond.methodLink RX6 80 yX3_tellKind ∈ lw_g := lw_gm (i := 640) (by decide +kernel) rfl
theorem mlX3_170 : Cond.methodLink RX3 170 yX3_sacksBrought ∈ lw_g := lw_gm (i := 644) (by decide +kernel) rfl
theorem mlX3_174 : Cond.methodLink RX3 174 yX3_sumOf ∈ lw_g := lw_gm (i := 648) (by decide +kernel) rfl
theorem mlL_51 : Cond.methodLink RL 51 yL_farmers ∈ lw_g := lw_gm (i := 649) (by decide +kernel) rfl
theorem mlL_26 : Cond.methodLink RL 26 yX6_farmerOf ∈ lw_g := lw_gm (i := 652) (by decide +kernel) rfl
theorem mlX6_86 : Cond.methodLink RX6 86 yX3_tellFarmer ∈ lw_g := lw_gm (i := 656) (by decide +kernel) rfl
theorem mlL_98 : Cond.methodLink RL 98 yL_money ∈ lw_g := lw_gm (i := 660) (by decide +kernel) rfl
theorem mlL_54 : Cond.methodLink RL 54 yX6_pledge ∈ lw_g := lw_gm (i := 663) (by decide +kernel) rfl
theorem mlX6_113 : Cond.methodLink RX6 113 yX3_putInPledge ∈ lw_g := lw_gm (i := 667) (by decide +kernel) rfl
theorem mlX3_213 : Cond.methodLink RX3 213 yX3_loanFor ∈ lw_g := lw_gm (i := 671) (by decide +kernel) rfl
theorem mlL_58 : Cond.methodLink RL 58 yX6_redeem ∈ lw_g := lw_gm (i := 677) (by decide +kernel) rfl
theorem mlX6_125 : Cond.methodLink RX6 125 yX3_redeemPledge ∈ lw_g := lw_gm (i := 681) (by decide +kernel) rfl
theorem mlX3_238 : Cond.methodLink RX3 238 yX3_debtOf ∈ lw_g := lw_gm (i := 685) (by decide +kernel) rfl
theorem mlX3_241 : Cond.methodLink RX3 241 yX5_endPledge ∈ lw_g := lw_gm (i := 686) (by decide +kernel) rfl
theorem cnX3_120 : Cond.constant RX3 120 (-1000001) ∈ lw_g := lw_gm (i := 324) (by decide +kernel) rfl
theorem cnX3_121 : Cond.constant RX3 121 (1000000) ∈ lw_g := lw_gm (i := 353) (by decide +kernel) rfl
theorem cnX3_122 : Cond.constant RX3 122 (-1000003) ∈ lw_g := lw_gm (i := 354) (by decide +kernel) rfl
theorem cnX3_155 : Cond.constant RX3 155 (-1000002) ∈ lw_g := lw_gm (i := 399) (by decide +kernel) rfl
theorem cnX6_79 : Cond.constant RX6 79 (-1000001) ∈ lw_g := lw_gm (i := 426) (by decide +kernel) rfl
theorem cnX3_189 : Cond.constant RX3 189 (-1000004) ∈ lw_g := lw_gm (i := 431) (by decide +kernel) rfl
theorem cnX6_153 : Cond.constant RX6 153 (-1000002) ∈ lw_g := lw_gm (i := 530) (by decide +kernel) rfl
theorem cnX6_124 : Cond.constant RX6 124 (-1000004) ∈ lw_g := lw_gm (i := 533) (by decide +kernel) rfl
theorem cnX1_29 : Cond.constant RX1 29 (-1000002) ∈ lw_g := lw_gm (i := 570) (by decide +kernel) rfl
theorem cnL_7 : Cond.constant RL 7 (15485959) ∈ lw_g := lw_gm (i := 574) (by decide +kernel) rfl
theorem cnL_8 : Cond.constant RL 8 (2147483647) ∈ lw_g := lw_gm (i := 575) (by decide +kernel) rfl
theorem cnL_35 : Cond.constant RL 35 (-1000004) ∈ lw_g := lw_gm (i := 588) (by decide +kernel) rfl
theorem cnX3_211 : Cond.constantLong RX3 211 (2147483647) ∈ lw_g := lw_gm (i := 614) (by decide +kernel) rfl
theorem cnX3_235 : Cond.constant RX3 235 (2147483647) ∈ lw_g := lw_gm (i := 615) (by decide +kernel) rfl
theorem cnX3_236 : Cond.constantLong RX3 236 (1000) ∈ lw_g := lw_gm (i := 616) (by decide +kernel) rfl
theorem cnX3_233 : Cond.constantLong RX3 233 (100) ∈ lw_g := lw_gm (i := 675) (by decide +kernel) rfl
theorem cnL_57 : Cond.constant RL 57 (-1000002) ∈ lw_g := lw_gm (i := 676) (by decide +kernel) rfl
theorem cnL_97 : Cond.constant RL 97 (-1000003) ∈ lw_g := lw_gm (i := 687) (by decide +kernel) rfl
theorem cnL_108 : Cond.constant RL 108 (-1000001) ∈ lw_g := lw_gm (i := 688) (by decide +kernel) rfl
theorem kw_min : Cond.static Lib.Math.min.name ∈ lw_g ∧ Cond.initialized "java/lang/Math" ∈ lw_g ∧ Cond.code Lib.Math.min.name Lib.Math.min.code 2 (some .int) ∈ lw_g := ⟨lw_gm (i := 489) (by decide +kernel) rfl, lw_gm (i := 25) (by decide +kernel) rfl, lw_gm (i := 490) (by decide +kernel) rfl⟩
theorem mlX3_280 : Cond.methodLink RX3 280 Lib.Math.min.name ∈ lw_g := lw_gm (i := 488) (by decide +kernel) rfl
theorem kw_max : Cond.static Lib.Math.max.name ∈ lw_g ∧ Cond.initialized "java/lang/Math" ∈ lw_g ∧ Cond.code Lib.Math.max.name Lib.Math.max.code 2 (some .int) ∈ lw_g := ⟨lw_gm (i := 512) (by decide +kernel) rfl, lw_gm (i := 25) (by decide +kernel) rfl, lw_gm (i := 513) (by decide +kernel) rfl⟩
theorem mlX3_296 : Cond.methodLink RX3 296 Lib.Math.max.name ∈ lw_g := lw_gm (i := 511) (by decide +kernel) rfl
theorem kw_abs : Cond.static Lib.Math.abs.name ∈ lw_g ∧ Cond.initialized "java/lang/Math" ∈ lw_g ∧ Cond.code Lib.Math.abs.name Lib.Math.abs.code 1 (some .int) ∈ lw_g := ⟨lw_gm (i := 478) (by decide +kernel) rfl, lw_gm (i := 25) (by decide +kernel) rfl, lw_gm (i := 479) (by decide +kernel) rfl⟩
theorem mlX3_272 : Cond.methodLink RX3 272 Lib.Math.abs.name ∈ lw_g := lw_gm (i := 477) (by decide +kernel) rfl
