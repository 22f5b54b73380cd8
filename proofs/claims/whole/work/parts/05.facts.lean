def hin_ok (ws : List Cond) : Bool := ws.all fun w => decide (w ∈ lw_tbl) && goodWord w
theorem hin_of {ws : List Cond} (h : hin_ok ws = true) : ∀ w ∈ ws, w ∈ lw_g := fun w hw => by
  have h1 := List.all_eq_true.mp h w hw
  simp only [Bool.and_eq_true, decide_eq_true_eq] at h1
  exact List.mem_filter.mpr h1
theorem hinX0 : ∀ w ∈ u_ws RX0 TX0 2, w ∈ lw_g := hin_of (by decide +kernel)
theorem hinX1 : ∀ w ∈ u_ws RX1 TX1 3, w ∈ lw_g := hin_of (by decide +kernel)
theorem hinX2 : ∀ w ∈ u_ws RX2 TX2 3, w ∈ lw_g := hin_of (by decide +kernel)
theorem hinX3 : ∀ w ∈ u_ws RX3 TX3 18, w ∈ lw_g := hin_of (by decide +kernel)
theorem hinX4 : ∀ w ∈ u_ws RX4 TX4 7, w ∈ lw_g := hin_of (by decide +kernel)
theorem hinX5 : ∀ w ∈ u_ws RX5 TX5 17, w ∈ lw_g := hin_of (by decide +kernel)
theorem hinX6 : ∀ w ∈ u_ws RX6 TX6 4, w ∈ lw_g := hin_of (by decide +kernel)
theorem hinX7 : ∀ w ∈ u_ws RX7 TX7 10, w ∈ lw_g := hin_of (by decide +kernel)
theorem flX2_7 : k_fld RX2 7 2 0 := ⟨(RX2, TX2, 3), rfl, by decide, lw_gm (i := 112) (by decide +kernel) rfl, hinX2⟩
theorem flX5_63 : k_fld RX5 63 2 0 := ⟨(RX2, TX2, 3), rfl, by decide, lw_gm (i := 113) (by decide +kernel) rfl, hinX2⟩
theorem flX3_123 : k_fld RX3 123 2 0 := ⟨(RX2, TX2, 3), rfl, by decide, lw_gm (i := 114) (by decide +kernel) rfl, hinX2⟩
theorem flX2_13 : k_fld RX2 13 2 1 := ⟨(RX2, TX2, 3), rfl, by decide, lw_gm (i := 115) (by decide +kernel) rfl, hinX2⟩
theorem flX5_66 : k_fld RX5 66 2 1 := ⟨(RX2, TX2, 3), rfl, by decide, lw_gm (i := 116) (by decide +kernel) rfl, hinX2⟩
theorem flX3_126 : k_fld RX3 126 2 1 := ⟨(RX2, TX2, 3), rfl, by decide, lw_gm (i := 117) (by decide +kernel) rfl, hinX2⟩
theorem flX2_16 : k_fld RX2 16 2 2 := ⟨(RX2, TX2, 3), rfl, by decide, lw_gm (i := 118) (by decide +kernel) rfl, hinX2⟩
theorem flX5_67 : k_fld RX5 67 2 2 := ⟨(RX2, TX2, 3), rfl, by decide, lw_gm (i := 119) (by decide +kernel) rfl, hinX2⟩
theorem flX3_129 : k_fld RX3 129 2 2 := ⟨(RX2, TX2, 3), rfl, by decide, lw_gm (i := 120) (by decide +kernel) rfl, hinX2⟩
theorem flX0_7 : k_fld RX0 7 0 0 := ⟨(RX0, TX0, 2), rfl, by decide, lw_gm (i := 134) (by decide +kernel) rfl, hinX0⟩
theorem flX3_132 : k_fld RX3 132 0 0 := ⟨(RX0, TX0, 2), rfl, by decide, lw_gm (i := 135) (by decide +kernel) rfl, hinX0⟩
theorem flX0_13 : k_fld RX0 13 0 1 := ⟨(RX0, TX0, 2), rfl, by decide, lw_gm (i := 136) (by decide +kernel) rfl, hinX0⟩
theorem flX3_135 : k_fld RX3 135 0 1 := ⟨(RX0, TX0, 2), rfl, by decide, lw_gm (i := 137) (by decide +kernel) rfl, hinX0⟩
theorem flX5_9 : k_fld RX5 9 5 0 := ⟨(RX5, TX5, 17), rfl, by decide, lw_gm (i := 148) (by decide +kernel) rfl, hinX5⟩
theorem flX3_203 : k_fld RX3 203 5 0 := ⟨(RX5, TX5, 17), rfl, by decide, lw_gm (i := 149) (by decide +kernel) rfl, hinX5⟩
theorem flX5_15 : k_fld RX5 15 5 1 := ⟨(RX5, TX5, 17), rfl, by decide, lw_gm (i := 150) (by decide +kernel) rfl, hinX5⟩
theorem flX3_206 : k_fld RX3 206 5 1 := ⟨(RX5, TX5, 17), rfl, by decide, lw_gm (i := 151) (by decide +kernel) rfl, hinX5⟩
theorem flX5_18 : k_fld RX5 18 5 2 := ⟨(RX5, TX5, 17), rfl, by decide, lw_gm (i := 152) (by decide +kernel) rfl, hinX5⟩
theorem flX3_209 : k_fld RX3 209 5 2 := ⟨(RX5, TX5, 17), rfl, by decide, lw_gm (i := 153) (by decide +kernel) rfl, hinX5⟩
theorem flX5_21 : k_fld RX5 21 5 3 := ⟨(RX5, TX5, 17), rfl, by decide, lw_gm (i := 154) (by decide +kernel) rfl, hinX5⟩
theorem flX5_24 : k_fld RX5 24 5 4 := ⟨(RX5, TX5, 17), rfl, by decide, lw_gm (i := 155) (by decide +kernel) rfl, hinX5⟩
theorem flX3_232 : k_fld RX3 232 5 4 := ⟨(RX5, TX5, 17), rfl, by decide, lw_gm (i := 156) (by decide +kernel) rfl, hinX5⟩
theorem flX5_27 : k_fld RX5 27 5 5 := ⟨(RX5, TX5, 17), rfl, by decide, lw_gm (i := 157) (by decide +kernel) rfl, hinX5⟩
theorem flX3_200 : k_fld RX3 200 5 5 := ⟨(RX5, TX5, 17), rfl, by decide, lw_gm (i := 158) (by decide +kernel) rfl, hinX5⟩
theorem flX5_30 : k_fld RX5 30 5 6 := ⟨(RX5, TX5, 17), rfl, by decide, lw_gm (i := 159) (by decide +kernel) rfl, hinX5⟩
theorem flX3_152 : k_fld RX3 152 5 6 := ⟨(RX5, TX5, 17), rfl, by decide, lw_gm (i := 160) (by decide +kernel) rfl, hinX5⟩
theorem flX6_150 : k_fld RX6 150 5 6 := ⟨(RX5, TX5, 17), rfl, by decide, lw_gm (i := 161) (by decide +kernel) rfl, hinX5⟩
theorem flX5_33 : k_fld RX5 33 5 7 := ⟨(RX5, TX5, 17), rfl, by decide, lw_gm (i := 162) (by decide +kernel) rfl, hinX5⟩
theorem flX5_36 : k_fld RX5 36 5 8 := ⟨(RX5, TX5, 17), rfl, by decide, lw_gm (i := 163) (by decide +kernel) rfl, hinX5⟩
theorem flX3_293 : k_fld RX3 293 5 8 := ⟨(RX5, TX5, 17), rfl, by decide, lw_gm (i := 164) (by decide +kernel) rfl, hinX5⟩
theorem flX5_39 : k_fld RX5 39 5 9 := ⟨(RX5, TX5, 17), rfl, by decide, lw_gm (i := 165) (by decide +kernel) rfl, hinX5⟩
theorem flX5_42 : k_fld RX5 42 5 10 := ⟨(RX5, TX5, 17), rfl, by decide, lw_gm (i := 166) (by decide +kernel) rfl, hinX5⟩
theorem flX5_45 : k_fld RX5 45 5 11 := ⟨(RX5, TX5, 17), rfl, by decide, lw_gm (i := 167) (by decide +kernel) rfl, hinX5⟩
theorem flX3_217 : k_fld RX3 217 5 11 := ⟨(RX5, TX5, 17), rfl, by decide, lw_gm (i := 168) (by decide +kernel) rfl, hinX5⟩
theorem flX5_48 : k_fld RX5 48 5 12 := ⟨(RX5, TX5, 17), rfl, by decide, lw_gm (i := 169) (by decide +kernel) rfl, hinX5⟩
theorem flX3_220 : k_fld RX3 220 5 12 := ⟨(RX5, TX5, 17), rfl, by decide, lw_gm (i := 170) (by decide +kernel) rfl, hinX5⟩
theorem flX5_51 : k_fld RX5 51 5 13 := ⟨(RX5, TX5, 17), rfl, by decide, lw_gm (i := 171) (by decide +kernel) rfl, hinX5⟩
theorem flX3_226 : k_fld RX3 226 5 13 := ⟨(RX5, TX5, 17), rfl, by decide, lw_gm (i := 172) (by decide +kernel) rfl, hinX5⟩
theorem flX5_54 : k_fld RX5 54 5 14 := ⟨(RX5, TX5, 17), rfl, by decide, lw_gm (i := 173) (by decide +kernel) rfl, hinX5⟩
theorem flX3_229 : k_fld RX3 229 5 14 := ⟨(RX5, TX5, 17), rfl, by decide, lw_gm (i := 174) (by decide +kernel) rfl, hinX5⟩
theorem flX5_57 : k_fld RX5 57 5 15 := ⟨(RX5, TX5, 17), rfl, by decide, lw_gm (i := 175) (by decide +kernel) rfl, hinX5⟩
theorem flX5_60 : k_fld RX5 60 5 16 := ⟨(RX5, TX5, 17), rfl, by decide, lw_gm (i := 176) (by decide +kernel) rfl, hinX5⟩
theorem flX3_160 : k_fld RX3 160 5 16 := ⟨(RX5, TX5, 17), rfl, by decide, lw_gm (i := 177) (by decide +kernel) rfl, hinX5⟩
theorem flX3_18 : k_fld RX3 18 3 0 := ⟨(RX3, TX3, 18), rfl, by decide, lw_gm (i := 213) (by decide +kernel) rfl, hinX3⟩
theorem flX6_163 : k_fld RX6 163 3 0 := ⟨(RX3, TX3, 18), rfl, by decide, lw_gm (i := 214) (by decide +kernel) rfl, hinX3⟩
theorem flX3_26 : k_fld RX3 26 3 1 := ⟨(RX3, TX3, 18), rfl, by decide, lw_gm (i := 215) (by decide +kernel) rfl, hinX3⟩
theorem flX3_31 : k_fld RX3 31 3 2 := ⟨(RX3, TX3, 18), rfl, by decide, lw_gm (i := 216) (by decide +kernel) rfl, hinX3⟩
theorem flX3_37 : k_fld RX3 37 3 3 := ⟨(RX3, TX3, 18), rfl, by decide, lw_gm (i := 217) (by decide +kernel) rfl, hinX3⟩
theorem flX3_43 : k_fld RX3 43 3 4 := ⟨(RX3, TX3, 18), rfl, by decide, lw_gm (i := 218) (by decide +kernel) rfl, hinX3⟩
theorem flX6_95 : k_fld RX6 95 3 4 := ⟨(RX3, TX3, 18), rfl, by decide, lw_gm (i := 219) (by decide +kernel) rfl, hinX3⟩
theorem flX3_91 : k_fld RX3 91 3 5 := ⟨(RX3, TX3, 18), rfl, by decide, lw_gm (i := 220) (by decide +kernel) rfl, hinX3⟩
theorem flX3_94 : k_fld RX3 94 3 6 := ⟨(RX3, TX3, 18), rfl, by decide, lw_gm (i := 221) (by decide +kernel) rfl, hinX3⟩
theorem flX3_97 : k_fld RX3 97 3 7 := ⟨(RX3, TX3, 18), rfl, by decide, lw_gm (i := 222) (by decide +kernel) rfl, hinX3⟩
theorem flX3_67 : k_fld RX3 67 3 8 := ⟨(RX3, TX3, 18), rfl, by decide, lw_gm (i := 223) (by decide +kernel) rfl, hinX3⟩
theorem flX6_137 : k_fld RX6 137 3 8 := ⟨(RX3, TX3, 18), rfl, by decide, lw_gm (i := 224) (by decide +kernel) rfl, hinX3⟩
theorem flX3_70 : k_fld RX3 70 3 9 := ⟨(RX3, TX3, 18), rfl, by decide, lw_gm (i := 225) (by decide +kernel) rfl, hinX3⟩
theorem flX3_73 : k_fld RX3 73 3 10 := ⟨(RX3, TX3, 18), rfl, by decide, lw_gm (i := 226) (by decide +kernel) rfl, hinX3⟩
theorem flX3_76 : k_fld RX3 76 3 11 := ⟨(RX3, TX3, 18), rfl, by decide, lw_gm (i := 227) (by decide +kernel) rfl, hinX3⟩
theorem flX6_199 : k_fld RX6 199 3 11 := ⟨(RX3, TX3, 18), rfl, by decide, lw_gm (i := 228) (by decide +kernel) rfl, hinX3⟩
theorem flX3_47 : k_fld RX3 47 3 12 := ⟨(RX3, TX3, 18), rfl, by decide, lw_gm (i := 229) (by decide +kernel) rfl, hinX3⟩
theorem flX3_51 : k_fld RX3 51 3 13 := ⟨(RX3, TX3, 18), rfl, by decide, lw_gm (i := 230) (by decide +kernel) rfl, hinX3⟩
theorem flX3_79 : k_fld RX3 79 3 14 := ⟨(RX3, TX3, 18), rfl, by decide, lw_gm (i := 231) (by decide +kernel) rfl, hinX3⟩
theorem flX3_82 : k_fld RX3 82 3 15 := ⟨(RX3, TX3, 18), rfl, by decide, lw_gm (i := 232) (by decide +kernel) rfl, hinX3⟩
theorem flX3_85 : k_fld RX3 85 3 16 := ⟨(RX3, TX3, 18), rfl, by decide, lw_gm (i := 233) (by decide +kernel) rfl, hinX3⟩
theorem flX3_88 : k_fld RX3 88 3 17 := ⟨(RX3, TX3, 18), rfl, by decide, lw_gm (i := 234) (by decide +kernel) rfl, hinX3⟩
theorem flX6_202 : k_fld RX6 202 3 17 := ⟨(RX3, TX3, 18), rfl, by decide, lw_gm (i := 235) (by decide +kernel) rfl, hinX3⟩
theorem flX1_11 : k_fld RX1 11 1 0 := ⟨(RX1, TX1, 3), rfl, by decide, lw_gm (i := 282) (by decide +kernel) rfl, hinX1⟩
theorem flX1_18 : k_fld RX1 18 1 1 := ⟨(RX1, TX1, 3), rfl, by decide, lw_gm (i := 283) (by decide +kernel) rfl, hinX1⟩
theorem flX1_22 : k_fld RX1 22 1 2 := ⟨(RX1, TX1, 3), rfl, by decide, lw_gm (i := 284) (by decide +kernel) rfl, hinX1⟩
theorem flX6_167 : k_fld RX6 167 1 2 := ⟨(RX1, TX1, 3), rfl, by decide, lw_gm (i := 285) (by decide +kernel) rfl, hinX1⟩
theorem flX4_9 : k_fld RX4 9 4 0 := ⟨(RX4, TX4, 7), rfl, by decide, lw_gm (i := 299) (by decide +kernel) rfl, hinX4⟩
theorem flX4_15 : k_fld RX4 15 4 1 := ⟨(RX4, TX4, 7), rfl, by decide, lw_gm (i := 300) (by decide +kernel) rfl, hinX4⟩
theorem flX4_19 : k_fld RX4 19 4 2 := ⟨(RX4, TX4, 7), rfl, by decide, lw_gm (i := 301) (by decide +kernel) rfl, hinX4⟩
theorem flX6_170 : k_fld RX6 170 4 2 := ⟨(RX4, TX4, 7), rfl, by decide, lw_gm (i := 302) (by decide +kernel) rfl, hinX4⟩
theorem flX4_24 : k_fld RX4 24 4 3 := ⟨(RX4, TX4, 7), rfl, by decide, lw_gm (i := 303) (by decide +kernel) rfl, hinX4⟩
theorem flX4_27 : k_fld RX4 27 4 4 := ⟨(RX4, TX4, 7), rfl, by decide, lw_gm (i := 304) (by decide +kernel) rfl, hinX4⟩
theorem flX6_193 : k_fld RX6 193 4 4 := ⟨(RX4, TX4, 7), rfl, by decide, lw_gm (i := 305) (by decide +kernel) rfl, hinX4⟩
theorem flX4_30 : k_fld RX4 30 4 5 := ⟨(RX4, TX4, 7), rfl, by decide, lw_gm (i := 306) (by decide +kernel) rfl, hinX4⟩
theorem flX6_190 : k_fld RX6 190 4 5 := ⟨(RX4, TX4, 7), rfl, by decide, lw_gm (i := 307) (by decide +kernel) rfl, hinX4⟩
theorem flX4_33 : k_fld RX4 33 4 6 := ⟨(RX4, TX4, 7), rfl, by decide, lw_gm (i := 308) (by decide +kernel) rfl, hinX4⟩
theorem flX6_196 : k_fld RX6 196 4 6 := ⟨(RX4, TX4, 7), rfl, by decide, lw_gm (i := 309) (by decide +kernel) rfl, hinX4⟩
theorem flX6_10 : k_fld RX6 10 6 0 := ⟨(RX6, TX6, 4), rfl, by decide, lw_gm (i := 326) (by decide +kernel) rfl, hinX6⟩
theorem flX6_16 : k_fld RX6 16 6 1 := ⟨(RX6, TX6, 4), rfl, by decide, lw_gm (i := 327) (by decide +kernel) rfl, hinX6⟩
theorem flX6_22 : k_fld RX6 22 6 2 := ⟨(RX6, TX6, 4), rfl, by decide, lw_gm (i := 328) (by decide +kernel) rfl, hinX6⟩
theorem flX6_29 : k_fld RX6 29 6 3 := ⟨(RX6, TX6, 4), rfl, by decide, lw_gm (i := 329) (by decide +kernel) rfl, hinX6⟩
theorem flX7_7 : k_fld RX7 7 7 0 := ⟨(RX7, TX7, 10), rfl, by decide, lw_gm (i := 821) (by decide +kernel) rfl, hinX7⟩
theorem flX7_13 : k_fld RX7 13 7 1 := ⟨(RX7, TX7, 10), rfl, by decide, lw_gm (i := 822) (by decide +kernel) rfl, hinX7⟩
theorem flX7_16 : k_fld RX7 16 7 2 := ⟨(RX7, TX7, 10), rfl, by decide, lw_gm (i := 823) (by decide +kernel) rfl, hinX7⟩
theorem flX7_19 : k_fld RX7 19 7 3 := ⟨(RX7, TX7, 10), rfl, by decide, lw_gm (i := 824) (by decide +kernel) rfl, hinX7⟩
theorem flX7_34 : k_fld RX7 34 7 4 := ⟨(RX7, TX7, 10), rfl, by decide, lw_gm (i := 825) (by decide +kernel) rfl, hinX7⟩
theorem flX7_22 : k_fld RX7 22 7 5 := ⟨(RX7, TX7, 10), rfl, by decide, lw_gm (i := 826) (by decide +kernel) rfl, hinX7⟩
theorem flX7_171 : k_fld RX7 171 7 6 := ⟨(RX7, TX7, 10), rfl, by decide, lw_gm (i := 827) (by decide +kernel) rfl, hinX7⟩
theorem flX7_174 : k_fld RX7 174 7 7 := ⟨(RX7, TX7, 10), rfl, by decide, lw_gm (i := 828) (by decide +kernel) rfl, hinX7⟩
theorem flX7_197 : k_fld RX7 197 7 8 := ⟨(RX7, TX7, 10), rfl, by decide, lw_gm (i := 829) (by decide +kernel) rfl, hinX7⟩
theorem flX7_26 : k_fld RX7 26 7 9 := ⟨(RX7, TX7, 10), rfl, by decide, lw_gm (i := 830) (by decide +kernel) rfl, hinX7⟩
theorem fpX0_0 : k_fldp 0 0 := ⟨(RX0, TX0, 2), tyX0, rfl, tyX0_ok, nmX0, rfl, by decide +kernel⟩
theorem fpX0_1 : k_fldp 0 1 := ⟨(RX0, TX0, 2), tyX0, rfl, tyX0_ok, nmX0, rfl, by decide +kernel⟩
theorem fpX1_1 : k_fldp 1 1 := ⟨(RX1, TX1, 3), tyX1, rfl, tyX1_ok, nmX1, rfl, by decide +kernel⟩
theorem fpX1_2 : k_fldp 1 2 := ⟨(RX1, TX1, 3), tyX1, rfl, tyX1_ok, nmX1, rfl, by decide +kernel⟩
theorem fpX2_0 : k_fldp 2 0 := ⟨(RX2, TX2, 3), tyX2, rfl, tyX2_ok, nmX2, rfl, by decide +kernel⟩
theorem fpX2_1 : k_fldp 2 1 := ⟨(RX2, TX2, 3), tyX2, rfl, tyX2_ok, nmX2, rfl, by decide +kernel⟩
theorem fpX2_2 : k_fldp 2 2 := ⟨(RX2, TX2, 3), tyX2, rfl, tyX2_ok, nmX2, rfl, by decide +kernel⟩
theorem fpX3_5 : k_fldp 3 5 := ⟨(RX3, TX3, 18), tyX3, rfl, tyX3_ok, nmX3, rfl, by decide +kernel⟩
theorem fpX3_6 : k_fldp 3 6 := ⟨(RX3, TX3, 18), tyX3, rfl, tyX3_ok, nmX3, rfl, by decide +kernel⟩
theorem fpX3_7 : k_fldp 3 7 := ⟨(RX3, TX3, 18), tyX3, rfl, tyX3_ok, nmX3, rfl, by decide +kernel⟩
theorem fpX3_8 : k_fldp 3 8 := ⟨(RX3, TX3, 18), tyX3, rfl, tyX3_ok, nmX3, rfl, by decide +kernel⟩
theorem fpX3_9 : k_fldp 3 9 := ⟨(RX3, TX3, 18), tyX3, rfl, tyX3_ok, nmX3, rfl, by decide +kernel⟩
theorem fpX3_10 : k_fldp 3 10 := ⟨(RX3, TX3, 18), tyX3, rfl, tyX3_ok, nmX3, rfl, by decide +kernel⟩
theorem fpX3_11 : k_fldp 3 11 := ⟨(RX3, TX3, 18), tyX3, rfl, tyX3_ok, nmX3, rfl, by decide +kernel⟩
theorem fpX3_12 : k_fldp 3 12 := ⟨(RX3, TX3, 18), tyX3, rfl, tyX3_ok, nmX3, rfl, by decide +kernel⟩
theorem fpX3_13 : k_fldp 3 13 := ⟨(RX3, TX3, 18), tyX3, rfl, tyX3_ok, nmX3, rfl, by decide +kernel⟩
theorem fpX3_14 : k_fldp 3 14 := ⟨(RX3, TX3, 18), tyX3, rfl, tyX3_ok, nmX3, rfl, by decide +kernel⟩
theorem fpX3_15 : k_fldp 3 15 := ⟨(RX3, TX3, 18), tyX3, rfl, tyX3_ok, nmX3, rfl, by decide +kernel⟩
theorem fpX3_16 : k_fldp 3 16 := ⟨(RX3, TX3, 18), tyX3, rfl, tyX3_ok, nmX3, rfl, by decide +kernel⟩
theorem fpX3_17 : k_fldp 3 17 := ⟨(RX3, TX3, 18), tyX3, rfl, tyX3_ok, nmX3, rfl, by decide +kernel⟩
theorem fpX4_2 : k_fldp 4 2 := ⟨(RX4, TX4, 7), tyX4, rfl, tyX4_ok, nmX4, rfl, by decide +kernel⟩
theorem fpX4_3 : k_fldp 4 3 := ⟨(RX4, TX4, 7), tyX4, rfl, tyX4_ok, nmX4, rfl, by decide +kernel⟩
theorem fpX4_4 : k_fldp 4 4 := ⟨(RX4, TX4, 7), tyX4, rfl, tyX4_ok, nmX4, rfl, by decide +kernel⟩
theorem fpX4_5 : k_fldp 4 5 := ⟨(RX4, TX4, 7), tyX4, rfl, tyX4_ok, nmX4, rfl, by decide +kernel⟩
theorem fpX4_6 : k_fldp 4 6 := ⟨(RX4, TX4, 7), tyX4, rfl, tyX4_ok, nmX4, rfl, by decide +kernel⟩
theorem fpX5_0 : k_fldp 5 0 := ⟨(RX5, TX5, 17), tyX5, rfl, tyX5_ok, nmX5, rfl, by decide +kernel⟩
theorem fpX5_1 : k_fldp 5 1 := ⟨(RX5, TX5, 17), tyX5, rfl, tyX5_ok, nmX5, rfl, by decide +kernel⟩
theorem fpX5_2 : k_fldp 5 2 := ⟨(RX5, TX5, 17), tyX5, rfl, tyX5_ok, nmX5, rfl, by decide +kernel⟩
theorem fpX5_3 : k_fldp 5 3 := ⟨(RX5, TX5, 17), tyX5, rfl, tyX5_ok, nmX5, rfl, by decide +kernel⟩
theorem fpX5_4 : k_fldp 5 4 := ⟨(RX5, TX5, 17), tyX5, rfl, tyX5_ok, nmX5, rfl, by decide +kernel⟩
theorem fpX5_5 : k_fldp 5 5 := ⟨(RX5, TX5, 17), tyX5, rfl, tyX5_ok, nmX5, rfl, by decide +kernel⟩
theorem fpX5_6 : k_fldp 5 6 := ⟨(RX5, TX5, 17), tyX5, rfl, tyX5_ok, nmX5, rfl, by decide +kernel⟩
theorem fpX5_7 : k_fldp 5 7 := ⟨(RX5, TX5, 17), tyX5, rfl, tyX5_ok, nmX5, rfl, by decide +kernel⟩
theorem fpX5_8 : k_fldp 5 8 := ⟨(RX5, TX5, 17), tyX5, rfl, tyX5_ok, nmX5, rfl, by decide +kernel⟩
theorem fpX5_9 : k_fldp 5 9 := ⟨(RX5, TX5, 17), tyX5, rfl, tyX5_ok, nmX5, rfl, by decide +kernel⟩
theorem fpX5_10 : k_fldp 5 10 := ⟨(RX5, TX5, 17), tyX5, rfl, tyX5_ok, nmX5, rfl, by decide +kernel⟩
theorem fpX5_11 : k_fldp 5 11 := ⟨(RX5, TX5, 17), tyX5, rfl, tyX5_ok, nmX5, rfl, by decide +kernel⟩
theorem fpX5_12 : k_fldp 5 12 := ⟨(RX5, TX5, 17), tyX5, rfl, tyX5_ok, nmX5, rfl, by decide +kernel⟩
theorem fpX5_13 : k_fldp 5 13 := ⟨(RX5, TX5, 17), tyX5, rfl, tyX5_ok, nmX5, rfl, by decide +kernel⟩
theorem fpX5_14 : k_fldp 5 14 := ⟨(RX5, TX5, 17), tyX5, rfl, tyX5_ok, nmX5, rfl, by decide +kernel⟩
theorem fpX5_15 : k_fldp 5 15 := ⟨(RX5, TX5, 17), tyX5, rfl, tyX5_ok, nmX5, rfl, by decide +kernel⟩
theorem fpX5_16 : k_fldp 5 16 := ⟨(RX5, TX5, 17), tyX5, rfl, tyX5_ok, nmX5, rfl, by decide +kernel⟩
theorem fpX7_4 : k_fldp 7 4 := ⟨(RX7, TX7, 10), tyX7, rfl, tyX7_ok, nmX7, rfl, by decide +kernel⟩
theorem fpX7_6 : k_fldp 7 6 := ⟨(RX7, TX7, 10), tyX7, rfl, tyX7_ok, nmX7, rfl, by decide +kernel⟩
theorem fpX7_7 : k_fldp 7 7 := ⟨(RX7, TX7, 10), tyX7, rfl, tyX7_ok, nmX7, rfl, by decide +kernel⟩
theorem fpX7_8 : k_fldp 7 8 := ⟨(RX7, TX7, 10), tyX7, rfl, tyX7_ok, nmX7, rfl, by decide +kernel⟩
theorem mwX0_takeFrom : k_mw yX0_takeFrom cX0_takeFrom 2 none 1 := ⟨lw_gm (i := 365) (by decide +kernel) rfl, lw_gm (i := 69) (by decide +kernel) rfl, by decide +kernel, by decide +kernel⟩
theorem iwX0_takeFrom : k_iw yX0_takeFrom := ⟨lw_gm (i := 363) (by decide +kernel) rfl, lw_gm (i := 364) (by decide +kernel) rfl⟩
theorem mwX1_hold : k_mw yX1_hold cX1_hold 2 none 1 := ⟨lw_gm (i := 346) (by decide +kernel) rfl, lw_gm (i := 71) (by decide +kernel) rfl, by decide +kernel, by decide +kernel⟩
theorem iwX1_hold : k_iw yX1_hold := ⟨lw_gm (i := 344) (by decide +kernel) rfl, lw_gm (i := 345) (by decide +kernel) rfl⟩
theorem mwX1_keepIfDone : k_mw yX1_keepIfDone cX1_keepIfDone 2 (some .int) 1 := ⟨lw_gm (i := 385) (by decide +kernel) rfl, lw_gm (i := 71) (by decide +kernel) rfl, by decide +kernel, by decide +kernel⟩
theorem iwX1_keepIfDone : k_iw yX1_keepIfDone := ⟨lw_gm (i := 383) (by decide +kernel) rfl, lw_gm (i := 384) (by decide +kernel) rfl⟩
theorem mwX1_restore : k_mw yX1_restore cX1_restore 2 (some .int) 1 := ⟨lw_gm (i := 748) (by decide +kernel) rfl, lw_gm (i := 71) (by decide +kernel) rfl, by decide +kernel, by decide +kernel⟩
theorem iwX1_restore : k_iw yX1_restore := ⟨lw_gm (i := 746) (by decide +kernel) rfl, lw_gm (i := 747) (by decide +kernel) rfl⟩
theorem mwX2_takeFrom : k_mw yX2_takeFrom cX2_takeFrom 2 none 1 := ⟨lw_gm (i := 361) (by decide +kernel) rfl, lw_gm (i := 68) (by decide +kernel) rfl, by decide +kernel, by decide +kernel⟩
theorem iwX2_takeFrom : k_iw yX2_takeFrom := ⟨lw_gm (i := 359) (by decide +kernel) rfl, lw_gm (i := 360) (by decide +kernel) rfl⟩
theorem mwX3_copyFrom : k_mw yX3_copyFrom cX3_copyFrom 2 none 1 := ⟨lw_gm (i := 350) (by decide +kernel) rfl, lw_gm (i := 67) (by decide +kernel) rfl, by decide +kernel, by decide +kernel⟩
theorem iwX3_copyFrom : k_iw yX3_copyFrom := ⟨lw_gm (i := 348) (by decide +kernel) rfl, lw_gm (i := 349) (by decide +kernel) rfl⟩
theorem mwX3_copyGrainFrom : k_mw yX3_copyGrainFrom cX3_copyGrainFrom 3 none 1 := ⟨lw_gm (i := 357) (by decide +kernel) rfl, lw_gm (i := 67) (by decide +kernel) rfl, by decide +kernel, by decide +kernel⟩
theorem iwX3_copyGrainFrom : k_iw yX3_copyGrainFrom := ⟨lw_gm (i := 356) (by decide +kernel) rfl, lw_gm (i := 0) (by decide +kernel) rfl⟩
theorem mwX3_hasKind : k_mw yX3_hasKind cX3_hasKind 2 (some .boolean) 1 := ⟨lw_gm (i := 443) (by decide +kernel) rfl, lw_gm (i := 67) (by decide +kernel) rfl, by decide +kernel, by decide +kernel⟩
theorem iwX3_hasKind : k_iw yX3_hasKind := ⟨lw_gm (i := 441) (by decide +kernel) rfl, lw_gm (i := 442) (by decide +kernel) rfl⟩
theorem mwX3_hasFarmer : k_mw yX3_hasFarmer cX3_hasFarmer 2 (some .boolean) 1 := ⟨lw_gm (i := 439) (by decide +kernel) rfl, lw_gm (i := 67) (by decide +kernel) rfl, by decide +kernel, by decide +kernel⟩
theorem iwX3_hasFarmer : k_iw yX3_hasFarmer := ⟨lw_gm (i := 437) (by decide +kernel) rfl, lw_gm (i := 438) (by decide +kernel) rfl⟩
theorem mwX3_hasSack : k_mw yX3_hasSack cX3_hasSack 2 (some .boolean) 1 := ⟨lw_gm (i := 463) (by decide +kernel) rfl, lw_gm (i := 67) (by decide +kernel) rfl, by decide +kernel, by decide +kernel⟩
theorem iwX3_hasSack : k_iw yX3_hasSack := ⟨lw_gm (i := 461) (by decide +kernel) rfl, lw_gm (i := 462) (by decide +kernel) rfl⟩
theorem mwX3_changeSetting : k_mw yX3_changeSetting cX3_changeSetting 4 (some .int) 2 := ⟨lw_gm (i := 373) (by decide +kernel) rfl, lw_gm (i := 67) (by decide +kernel) rfl, by decide +kernel, by decide +kernel⟩
theorem iwX3_changeSetting : k_iw yX3_changeSetting := ⟨lw_gm (i := 371) (by decide +kernel) rfl, lw_gm (i := 372) (by decide +kernel) rfl⟩
theorem mwX3_changeLeak : k_mw yX3_changeLeak cX3_changeLeak 4 (some .int) 2 := ⟨lw_gm (i := 393) (by decide +kernel) rfl, lw_gm (i := 67) (by decide +kernel) rfl, by decide +kernel, by decide +kernel⟩
theorem iwX3_changeLeak : k_iw yX3_changeLeak := ⟨lw_gm (i := 391) (by decide +kernel) rfl, lw_gm (i := 392) (by decide +kernel) rfl⟩
theorem mwX3_changeLock : k_mw yX3_changeLock cX3_changeLock 3 (some .int) 1 := ⟨lw_gm (i := 401) (by decide +kernel) rfl, lw_gm (i := 67) (by decide +kernel) rfl, by decide +kernel, by decide +kernel⟩
theorem iwX3_changeLock : k_iw yX3_changeLock := ⟨lw_gm (i := 399) (by decide +kernel) rfl, lw_gm (i := 400) (by decide +kernel) rfl⟩
theorem mwX3_changeOpening : k_mw yX3_changeOpening cX3_changeOpening 3 (some .int) 1 := ⟨lw_gm (i := 409) (by decide +kernel) rfl, lw_gm (i := 67) (by decide +kernel) rfl, by decide +kernel, by decide +kernel⟩
theorem iwX3_changeOpening : k_iw yX3_changeOpening := ⟨lw_gm (i := 407) (by decide +kernel) rfl, lw_gm (i := 408) (by decide +kernel) rfl⟩
theorem mwX3_addKind : k_mw yX3_addKind cX3_addKind 5 (some .int) 3 := ⟨lw_gm (i := 417) (by decide +kernel) rfl, lw_gm (i := 67) (by decide +kernel) rfl, by decide +kernel, by decide +kernel⟩
theorem iwX3_addKind : k_iw yX3_addKind := ⟨lw_gm (i := 415) (by decide +kernel) rfl, lw_gm (i := 416) (by decide +kernel) rfl⟩
theorem mwX3_addFarmer : k_mw yX3_addFarmer cX3_addFarmer 2 (some .int) 0 := ⟨lw_gm (i := 427) (by decide +kernel) rfl, lw_gm (i := 67) (by decide +kernel) rfl, by decide +kernel, by decide +kernel⟩
theorem iwX3_addFarmer : k_iw yX3_addFarmer := ⟨lw_gm (i := 425) (by decide +kernel) rfl, lw_gm (i := 426) (by decide +kernel) rfl⟩
theorem mwX3_addSack : k_mw yX3_addSack cX3_addSack 4 (some .int) 3 := ⟨lw_gm (i := 435) (by decide +kernel) rfl, lw_gm (i := 67) (by decide +kernel) rfl, by decide +kernel, by decide +kernel⟩
theorem iwX3_addSack : k_iw yX3_addSack := ⟨lw_gm (i := 433) (by decide +kernel) rfl, lw_gm (i := 434) (by decide +kernel) rfl⟩
theorem mwX3_withdrawSack : k_mw yX3_withdrawSack cX3_withdrawSack 3 (some .int) 1 := ⟨lw_gm (i := 459) (by decide +kernel) rfl, lw_gm (i := 67) (by decide +kernel) rfl, by decide +kernel, by decide +kernel⟩
theorem iwX3_withdrawSack : k_iw yX3_withdrawSack := ⟨lw_gm (i := 457) (by decide +kernel) rfl, lw_gm (i := 458) (by decide +kernel) rfl⟩
theorem mwX3_fetchSack : k_mw yX3_fetchSack cX3_fetchSack 3 (some .int) 1 := ⟨lw_gm (i := 476) (by decide +kernel) rfl, lw_gm (i := 67) (by decide +kernel) rfl, by decide +kernel, by decide +kernel⟩
theorem iwX3_fetchSack : k_iw yX3_fetchSack := ⟨lw_gm (i := 474) (by decide +kernel) rfl, lw_gm (i := 475) (by decide +kernel) rfl⟩
theorem mwX3_tellKind : k_mw yX3_tellKind cX3_tellKind 3 (some .int) 2 := ⟨lw_gm (i := 495) (by decide +kernel) rfl, lw_gm (i := 67) (by decide +kernel) rfl, by decide +kernel, by decide +kernel⟩
theorem iwX3_tellKind : k_iw yX3_tellKind := ⟨lw_gm (i := 493) (by decide +kernel) rfl, lw_gm (i := 494) (by decide +kernel) rfl⟩
theorem mwX3_tellFarmer : k_mw yX3_tellFarmer cX3_tellFarmer 3 (some .int) 2 := ⟨lw_gm (i := 522) (by decide +kernel) rfl, lw_gm (i := 67) (by decide +kernel) rfl, by decide +kernel, by decide +kernel⟩
theorem iwX3_tellFarmer : k_iw yX3_tellFarmer := ⟨lw_gm (i := 520) (by decide +kernel) rfl, lw_gm (i := 521) (by decide +kernel) rfl⟩
theorem mwX3_sumOf : k_mw yX3_sumOf cX3_sumOf 6 (some .int) 3 := ⟨lw_gm (i := 507) (by decide +kernel) rfl, lw_gm (i := 67) (by decide +kernel) rfl, by decide +kernel, by decide +kernel⟩
theorem iwX3_sumOf : k_iw yX3_sumOf := ⟨lw_gm (i := 505) (by decide +kernel) rfl, lw_gm (i := 506) (by decide +kernel) rfl⟩
theorem mwX3_sacksBrought : k_mw yX3_sacksBrought cX3_sacksBrought 5 (some .int) 2 := ⟨lw_gm (i := 499) (by decide +kernel) rfl, lw_gm (i := 67) (by decide +kernel) rfl, by decide +kernel, by decide +kernel⟩
theorem iwX3_sacksBrought : k_iw yX3_sacksBrought := ⟨lw_gm (i := 498) (by decide +kernel) rfl, lw_gm (i := 1) (by decide +kernel) rfl⟩
theorem mwX3_sacksInStage : k_mw yX3_sacksInStage cX3_sacksInStage 4 (some .int) 1 := ⟨lw_gm (i := 740) (by decide +kernel) rfl, lw_gm (i := 67) (by decide +kernel) rfl, by decide +kernel, by decide +kernel⟩
theorem iwX3_sacksInStage : k_iw yX3_sacksInStage := ⟨lw_gm (i := 739) (by decide +kernel) rfl, lw_gm (i := 16) (by decide +kernel) rfl⟩
theorem mwX3_placeInQueue : k_mw yX3_placeInQueue cX3_placeInQueue 4 (some .int) 1 := ⟨lw_gm (i := 535) (by decide +kernel) rfl, lw_gm (i := 67) (by decide +kernel) rfl, by decide +kernel, by decide +kernel⟩
theorem iwX3_placeInQueue : k_iw yX3_placeInQueue := ⟨lw_gm (i := 533) (by decide +kernel) rfl, lw_gm (i := 534) (by decide +kernel) rfl⟩
theorem mwX3_sackAtPlace : k_mw yX3_sackAtPlace cX3_sackAtPlace 3 (some .int) 1 := ⟨lw_gm (i := 553) (by decide +kernel) rfl, lw_gm (i := 67) (by decide +kernel) rfl, by decide +kernel, by decide +kernel⟩
theorem iwX3_sackAtPlace : k_iw yX3_sackAtPlace := ⟨lw_gm (i := 551) (by decide +kernel) rfl, lw_gm (i := 552) (by decide +kernel) rfl⟩
theorem mwX3_firstOfQueue : k_mw yX3_firstOfQueue cX3_firstOfQueue 5 (some .int) 0 := ⟨lw_gm (i := 677) (by decide +kernel) rfl, lw_gm (i := 67) (by decide +kernel) rfl, by decide +kernel, by decide +kernel⟩
theorem iwX3_firstOfQueue : k_iw yX3_firstOfQueue := ⟨lw_gm (i := 676) (by decide +kernel) rfl, lw_gm (i := 12) (by decide +kernel) rfl⟩
theorem mwX3_waitsAheadOf : k_mw yX3_waitsAheadOf cX3_waitsAheadOf 5 (some .boolean) 2 := ⟨lw_gm (i := 540) (by decide +kernel) rfl, lw_gm (i := 67) (by decide +kernel) rfl, by decide +kernel, by decide +kernel⟩
theorem iwX3_waitsAheadOf : k_iw yX3_waitsAheadOf := ⟨lw_gm (i := 539) (by decide +kernel) rfl, lw_gm (i := 3) (by decide +kernel) rfl⟩
theorem mwX3_rankInQueue : k_mw yX3_rankInQueue cX3_rankInQueue 2 (some .int) 1 := ⟨lw_gm (i := 544) (by decide +kernel) rfl, lw_gm (i := 67) (by decide +kernel) rfl, by decide +kernel, by decide +kernel⟩
theorem iwX3_rankInQueue : k_iw yX3_rankInQueue := ⟨lw_gm (i := 543) (by decide +kernel) rfl, lw_gm (i := 4) (by decide +kernel) rfl⟩
theorem mwX3_addPence : k_mw yX3_addPence cX3_addPence 4 (some .int) 2 := ⟨lw_gm (i := 567) (by decide +kernel) rfl, lw_gm (i := 67) (by decide +kernel) rfl, by decide +kernel, by decide +kernel⟩
theorem iwX3_addPence : k_iw yX3_addPence := ⟨lw_gm (i := 565) (by decide +kernel) rfl, lw_gm (i := 566) (by decide +kernel) rfl⟩
theorem mwX3_putInPledge : k_mw yX3_putInPledge cX3_putInPledge 6 (some .int) 2 := ⟨lw_gm (i := 577) (by decide +kernel) rfl, lw_gm (i := 67) (by decide +kernel) rfl, by decide +kernel, by decide +kernel⟩
theorem iwX3_putInPledge : k_iw yX3_putInPledge := ⟨lw_gm (i := 575) (by decide +kernel) rfl, lw_gm (i := 576) (by decide +kernel) rfl⟩
theorem mwX3_loanFor : k_mw yX3_loanFor cX3_loanFor 7 (some .int) 2 := ⟨lw_gm (i := 581) (by decide +kernel) rfl, lw_gm (i := 67) (by decide +kernel) rfl, by decide +kernel, by decide +kernel⟩
theorem iwX3_loanFor : k_iw yX3_loanFor := ⟨lw_gm (i := 580) (by decide +kernel) rfl, lw_gm (i := 5) (by decide +kernel) rfl⟩
theorem mwX3_debtOf : k_mw yX3_debtOf cX3_debtOf 8 (some .int) 1 := ⟨lw_gm (i := 595) (by decide +kernel) rfl, lw_gm (i := 67) (by decide +kernel) rfl, by decide +kernel, by decide +kernel⟩
theorem iwX3_debtOf : k_iw yX3_debtOf := ⟨lw_gm (i := 593) (by decide +kernel) rfl, lw_gm (i := 594) (by decide +kernel) rfl⟩
theorem mwX3_redeemPledge : k_mw yX3_redeemPledge cX3_redeemPledge 5 (some .int) 1 := ⟨lw_gm (i := 606) (by decide +kernel) rfl, lw_gm (i := 67) (by decide +kernel) rfl, by decide +kernel, by decide +kernel⟩
theorem iwX3_redeemPledge : k_iw yX3_redeemPledge := ⟨lw_gm (i := 604) (by decide +kernel) rfl, lw_gm (i := 605) (by decide +kernel) rfl⟩
theorem mwX3_sackOfPledge : k_mw yX3_sackOfPledge cX3_sackOfPledge 3 (some .int) 1 := ⟨lw_gm (i := 616) (by decide +kernel) rfl, lw_gm (i := 67) (by decide +kernel) rfl, by decide +kernel, by decide +kernel⟩
theorem iwX3_sackOfPledge : k_iw yX3_sackOfPledge := ⟨lw_gm (i := 614) (by decide +kernel) rfl, lw_gm (i := 615) (by decide +kernel) rfl⟩
theorem mwX3_pledgesAheadOf : k_mw yX3_pledgesAheadOf cX3_pledgesAheadOf 6 (some .int) 1 := ⟨lw_gm (i := 620) (by decide +kernel) rfl, lw_gm (i := 67) (by decide +kernel) rfl, by decide +kernel, by decide +kernel⟩
theorem iwX3_pledgesAheadOf : k_iw yX3_pledgesAheadOf := ⟨lw_gm (i := 619) (by decide +kernel) rfl, lw_gm (i := 6) (by decide +kernel) rfl⟩
theorem mwX3_tellPledge : k_mw yX3_tellPledge cX3_tellPledge 4 (some .int) 2 := ⟨lw_gm (i := 624) (by decide +kernel) rfl, lw_gm (i := 67) (by decide +kernel) rfl, by decide +kernel, by decide +kernel⟩
theorem iwX3_tellPledge : k_iw yX3_tellPledge := ⟨lw_gm (i := 622) (by decide +kernel) rfl, lw_gm (i := 623) (by decide +kernel) rfl⟩
theorem mwX3_pledgesOf : k_mw yX3_pledgesOf cX3_pledgesOf 4 (some .int) 1 := ⟨lw_gm (i := 526) (by decide +kernel) rfl, lw_gm (i := 67) (by decide +kernel) rfl, by decide +kernel, by decide +kernel⟩
theorem iwX3_pledgesOf : k_iw yX3_pledgesOf := ⟨lw_gm (i := 525) (by decide +kernel) rfl, lw_gm (i := 2) (by decide +kernel) rfl⟩
theorem mwX3_dropOldPledges : k_mw yX3_dropOldPledges cX3_dropOldPledges 2 none 0 := ⟨lw_gm (i := 640) (by decide +kernel) rfl, lw_gm (i := 67) (by decide +kernel) rfl, by decide +kernel, by decide +kernel⟩
theorem iwX3_dropOldPledges : k_iw yX3_dropOldPledges := ⟨lw_gm (i := 639) (by decide +kernel) rfl, lw_gm (i := 7) (by decide +kernel) rfl⟩
theorem mwX3_today : k_mw yX3_today cX3_today 1 (some .int) 0 := ⟨lw_gm (i := 586) (by decide +kernel) rfl, lw_gm (i := 67) (by decide +kernel) rfl, by decide +kernel, by decide +kernel⟩
theorem iwX3_today : k_iw yX3_today := ⟨lw_gm (i := 584) (by decide +kernel) rfl, lw_gm (i := 585) (by decide +kernel) rfl⟩
theorem mwX3_letPass : k_mw yX3_letPass cX3_letPass 3 (some .int) 1 := ⟨lw_gm (i := 632) (by decide +kernel) rfl, lw_gm (i := 67) (by decide +kernel) rfl, by decide +kernel, by decide +kernel⟩
theorem iwX3_letPass : k_iw yX3_letPass := ⟨lw_gm (i := 630) (by decide +kernel) rfl, lw_gm (i := 631) (by decide +kernel) rfl⟩
theorem mwX3_step : k_mw yX3_step cX3_step 2 none 0 := ⟨lw_gm (i := 636) (by decide +kernel) rfl, lw_gm (i := 67) (by decide +kernel) rfl, by decide +kernel, by decide +kernel⟩
theorem iwX3_step : k_iw yX3_step := ⟨lw_gm (i := 634) (by decide +kernel) rfl, lw_gm (i := 635) (by decide +kernel) rfl⟩
theorem mwX3_seaAt : k_mw yX3_seaAt cX3_seaAt 8 (some .int) 1 := ⟨lw_gm (i := 648) (by decide +kernel) rfl, lw_gm (i := 67) (by decide +kernel) rfl, by decide +kernel, by decide +kernel⟩
theorem iwX3_seaAt : k_iw yX3_seaAt := ⟨lw_gm (i := 646) (by decide +kernel) rfl, lw_gm (i := 647) (by decide +kernel) rfl⟩
theorem mwX3_stepsToHigh : k_mw yX3_stepsToHigh cX3_stepsToHigh 4 (some .int) 0 := ⟨lw_gm (i := 705) (by decide +kernel) rfl, lw_gm (i := 67) (by decide +kernel) rfl, by decide +kernel, by decide +kernel⟩
theorem iwX3_stepsToHigh : k_iw yX3_stepsToHigh := ⟨lw_gm (i := 703) (by decide +kernel) rfl, lw_gm (i := 704) (by decide +kernel) rfl⟩
theorem mwX3_level : k_mw yX3_level cX3_level 1 (some .int) 0 := ⟨lw_gm (i := 662) (by decide +kernel) rfl, lw_gm (i := 67) (by decide +kernel) rfl, by decide +kernel, by decide +kernel⟩
theorem iwX3_level : k_iw yX3_level := ⟨lw_gm (i := 661) (by decide +kernel) rfl, lw_gm (i := 9) (by decide +kernel) rfl⟩
theorem mwX3_flowIn : k_mw yX3_flowIn cX3_flowIn 4 none 1 := ⟨lw_gm (i := 658) (by decide +kernel) rfl, lw_gm (i := 67) (by decide +kernel) rfl, by decide +kernel, by decide +kernel⟩
theorem iwX3_flowIn : k_iw yX3_flowIn := ⟨lw_gm (i := 657) (by decide +kernel) rfl, lw_gm (i := 8) (by decide +kernel) rfl⟩
theorem mwX3_leakOut : k_mw yX3_leakOut cX3_leakOut 5 none 1 := ⟨lw_gm (i := 669) (by decide +kernel) rfl, lw_gm (i := 67) (by decide +kernel) rfl, by decide +kernel, by decide +kernel⟩
theorem iwX3_leakOut : k_iw yX3_leakOut := ⟨lw_gm (i := 668) (by decide +kernel) rfl, lw_gm (i := 10) (by decide +kernel) rfl⟩
theorem mwX3_grind : k_mw yX3_grind cX3_grind 4 none 1 := ⟨lw_gm (i := 673) (by decide +kernel) rfl, lw_gm (i := 67) (by decide +kernel) rfl, by decide +kernel, by decide +kernel⟩
theorem iwX3_grind : k_iw yX3_grind := ⟨lw_gm (i := 672) (by decide +kernel) rfl, lw_gm (i := 11) (by decide +kernel) rfl⟩
theorem mwX3_putOnStones : k_mw yX3_putOnStones cX3_putOnStones 3 none 1 := ⟨lw_gm (i := 681) (by decide +kernel) rfl, lw_gm (i := 67) (by decide +kernel) rfl, by decide +kernel, by decide +kernel⟩
theorem iwX3_putOnStones : k_iw yX3_putOnStones := ⟨lw_gm (i := 680) (by decide +kernel) rfl, lw_gm (i := 13) (by decide +kernel) rfl⟩
theorem mwX3_grindSack : k_mw yX3_grindSack cX3_grindSack 4 none 2 := ⟨lw_gm (i := 685) (by decide +kernel) rfl, lw_gm (i := 67) (by decide +kernel) rfl, by decide +kernel, by decide +kernel⟩
theorem iwX3_grindSack : k_iw yX3_grindSack := ⟨lw_gm (i := 684) (by decide +kernel) rfl, lw_gm (i := 14) (by decide +kernel) rfl⟩
theorem mwX3_tellPond : k_mw yX3_tellPond cX3_tellPond 2 (some .int) 1 := ⟨lw_gm (i := 713) (by decide +kernel) rfl, lw_gm (i := 67) (by decide +kernel) rfl, by decide +kernel, by decide +kernel⟩
theorem iwX3_tellPond : k_iw yX3_tellPond := ⟨lw_gm (i := 711) (by decide +kernel) rfl, lw_gm (i := 712) (by decide +kernel) rfl⟩
theorem mwX3_countOf : k_mw yX3_countOf cX3_countOf 2 (some .int) 1 := ⟨lw_gm (i := 736) (by decide +kernel) rfl, lw_gm (i := 67) (by decide +kernel) rfl, by decide +kernel, by decide +kernel⟩
theorem iwX3_countOf : k_iw yX3_countOf := ⟨lw_gm (i := 734) (by decide +kernel) rfl, lw_gm (i := 735) (by decide +kernel) rfl⟩
theorem mwX4_append : k_mw yX4_append cX4_append 2 (some .int) 1 := ⟨lw_gm (i := 757) (by decide +kernel) rfl, lw_gm (i := 72) (by decide +kernel) rfl, by decide +kernel, by decide +kernel⟩
theorem iwX4_append : k_iw yX4_append := ⟨lw_gm (i := 755) (by decide +kernel) rfl, lw_gm (i := 756) (by decide +kernel) rfl⟩
theorem mwX4_empty : k_mw yX4_empty cX4_empty 2 (some .int) 0 := ⟨lw_gm (i := 766) (by decide +kernel) rfl, lw_gm (i := 72) (by decide +kernel) rfl, by decide +kernel, by decide +kernel⟩
theorem iwX4_empty : k_iw yX4_empty := ⟨lw_gm (i := 764) (by decide +kernel) rfl, lw_gm (i := 765) (by decide +kernel) rfl⟩
theorem mwX4_doAll : k_mw yX4_doAll cX4_doAll 3 none 1 := ⟨lw_gm (i := 774) (by decide +kernel) rfl, lw_gm (i := 72) (by decide +kernel) rfl, by decide +kernel, by decide +kernel⟩
theorem iwX4_doAll : k_iw yX4_doAll := ⟨lw_gm (i := 772) (by decide +kernel) rfl, lw_gm (i := 773) (by decide +kernel) rfl⟩
theorem mwX4_readOrder : k_mw yX4_readOrder cX4_readOrder 3 (some .boolean) 0 := ⟨lw_gm (i := 778) (by decide +kernel) rfl, lw_gm (i := 72) (by decide +kernel) rfl, by decide +kernel, by decide +kernel⟩
theorem iwX4_readOrder : k_iw yX4_readOrder := ⟨lw_gm (i := 777) (by decide +kernel) rfl, lw_gm (i := 17) (by decide +kernel) rfl⟩
theorem mwX4_numbersAfter : k_mw yX4_numbersAfter cX4_numbersAfter 1 (some .int) 1 := ⟨lw_gm (i := 781) (by decide +kernel) rfl, lw_gm (i := 72) (by decide +kernel) rfl, by decide +kernel, by decide +kernel⟩
theorem swX4_numbersAfter : Cond.static yX4_numbersAfter ∈ lw_g := lw_gm (i := 780) (by decide +kernel) rfl
theorem mwX4_readSign : k_mw yX4_readSign cX4_readSign 2 (some .boolean) 1 := ⟨lw_gm (i := 785) (by decide +kernel) rfl, lw_gm (i := 72) (by decide +kernel) rfl, by decide +kernel, by decide +kernel⟩
theorem iwX4_readSign : k_iw yX4_readSign := ⟨lw_gm (i := 784) (by decide +kernel) rfl, lw_gm (i := 18) (by decide +kernel) rfl⟩
theorem mwX4_readNumber : k_mw yX4_readNumber cX4_readNumber 4 (some .boolean) 1 := ⟨lw_gm (i := 789) (by decide +kernel) rfl, lw_gm (i := 72) (by decide +kernel) rfl, by decide +kernel, by decide +kernel⟩
theorem iwX4_readNumber : k_iw yX4_readNumber := ⟨lw_gm (i := 788) (by decide +kernel) rfl, lw_gm (i := 19) (by decide +kernel) rfl⟩
theorem mwX4_doOrder : k_mw yX4_doOrder cX4_doOrder 2 (some .int) 1 := ⟨lw_gm (i := 794) (by decide +kernel) rfl, lw_gm (i := 72) (by decide +kernel) rfl, by decide +kernel, by decide +kernel⟩
theorem iwX4_doOrder : k_iw yX4_doOrder := ⟨lw_gm (i := 793) (by decide +kernel) rfl, lw_gm (i := 20) (by decide +kernel) rfl⟩
theorem mwX4_isKnown : k_mw yX4_isKnown cX4_isKnown 2 (some .boolean) 1 := ⟨lw_gm (i := 798) (by decide +kernel) rfl, lw_gm (i := 72) (by decide +kernel) rfl, by decide +kernel, by decide +kernel⟩
theorem iwX4_isKnown : k_iw yX4_isKnown := ⟨lw_gm (i := 797) (by decide +kernel) rfl, lw_gm (i := 21) (by decide +kernel) rfl⟩
theorem mwX4_answerOf : k_mw yX4_answerOf cX4_answerOf 2 (some .int) 1 := ⟨lw_gm (i := 805) (by decide +kernel) rfl, lw_gm (i := 72) (by decide +kernel) rfl, by decide +kernel, by decide +kernel⟩
theorem iwX4_answerOf : k_iw yX4_answerOf := ⟨lw_gm (i := 804) (by decide +kernel) rfl, lw_gm (i := 22) (by decide +kernel) rfl⟩
theorem mwX5_takeFrom : k_mw yX5_takeFrom cX5_takeFrom 2 none 1 := ⟨lw_gm (i := 369) (by decide +kernel) rfl, lw_gm (i := 70) (by decide +kernel) rfl, by decide +kernel, by decide +kernel⟩
theorem iwX5_takeFrom : k_iw yX5_takeFrom := ⟨lw_gm (i := 367) (by decide +kernel) rfl, lw_gm (i := 368) (by decide +kernel) rfl⟩
theorem mwX5_begin : k_mw yX5_begin cX5_begin 5 none 4 := ⟨lw_gm (i := 447) (by decide +kernel) rfl, lw_gm (i := 70) (by decide +kernel) rfl, by decide +kernel, by decide +kernel⟩
theorem iwX5_begin : k_iw yX5_begin := ⟨lw_gm (i := 445) (by decide +kernel) rfl, lw_gm (i := 446) (by decide +kernel) rfl⟩
theorem mwX5_addGround : k_mw yX5_addGround cX5_addGround 2 none 1 := ⟨lw_gm (i := 692) (by decide +kernel) rfl, lw_gm (i := 70) (by decide +kernel) rfl, by decide +kernel, by decide +kernel⟩
theorem iwX5_addGround : k_iw yX5_addGround := ⟨lw_gm (i := 690) (by decide +kernel) rfl, lw_gm (i := 691) (by decide +kernel) rfl⟩
theorem mwX5_endPledge : k_mw yX5_endPledge cX5_endPledge 1 none 0 := ⟨lw_gm (i := 451) (by decide +kernel) rfl, lw_gm (i := 70) (by decide +kernel) rfl, by decide +kernel, by decide +kernel⟩
theorem iwX5_endPledge : k_iw yX5_endPledge := ⟨lw_gm (i := 449) (by decide +kernel) rfl, lw_gm (i := 450) (by decide +kernel) rfl⟩
theorem mwX5_fall : k_mw yX5_fall cX5_fall 1 none 0 := ⟨lw_gm (i := 644) (by decide +kernel) rfl, lw_gm (i := 70) (by decide +kernel) rfl, by decide +kernel, by decide +kernel⟩
theorem iwX5_fall : k_iw yX5_fall := ⟨lw_gm (i := 642) (by decide +kernel) rfl, lw_gm (i := 643) (by decide +kernel) rfl⟩
theorem mwX5_hasPledge : k_mw yX5_hasPledge cX5_hasPledge 1 (some .boolean) 0 := ⟨lw_gm (i := 480) (by decide +kernel) rfl, lw_gm (i := 70) (by decide +kernel) rfl, by decide +kernel, by decide +kernel⟩
theorem iwX5_hasPledge : k_iw yX5_hasPledge := ⟨lw_gm (i := 478) (by decide +kernel) rfl, lw_gm (i := 479) (by decide +kernel) rfl⟩
theorem mwX5_grain : k_mw yX5_grain cX5_grain 1 (some .int) 0 := ⟨lw_gm (i := 468) (by decide +kernel) rfl, lw_gm (i := 70) (by decide +kernel) rfl, by decide +kernel, by decide +kernel⟩
theorem iwX5_grain : k_iw yX5_grain := ⟨lw_gm (i := 466) (by decide +kernel) rfl, lw_gm (i := 467) (by decide +kernel) rfl⟩
theorem mwX5_flour : k_mw yX5_flour cX5_flour 1 (some .int) 0 := ⟨lw_gm (i := 484) (by decide +kernel) rfl, lw_gm (i := 70) (by decide +kernel) rfl, by decide +kernel, by decide +kernel⟩
theorem iwX5_flour : k_iw yX5_flour := ⟨lw_gm (i := 482) (by decide +kernel) rfl, lw_gm (i := 483) (by decide +kernel) rfl⟩
theorem mwX5_isOf : k_mw yX5_isOf cX5_isOf 3 (some .boolean) 2 := ⟨lw_gm (i := 503) (by decide +kernel) rfl, lw_gm (i := 70) (by decide +kernel) rfl, by decide +kernel, by decide +kernel⟩
theorem iwX5_isOf : k_iw yX5_isOf := ⟨lw_gm (i := 501) (by decide +kernel) rfl, lw_gm (i := 502) (by decide +kernel) rfl⟩
theorem mwX5_tell : k_mw yX5_tell cX5_tell 2 (some .int) 1 := ⟨lw_gm (i := 511) (by decide +kernel) rfl, lw_gm (i := 70) (by decide +kernel) rfl, by decide +kernel, by decide +kernel⟩
theorem iwX5_tell : k_iw yX5_tell := ⟨lw_gm (i := 509) (by decide +kernel) rfl, lw_gm (i := 510) (by decide +kernel) rfl⟩
theorem mwX6_set : k_mw yX6_set cX6_set 3 (some .int) 2 := ⟨lw_gm (i := 342) (by decide +kernel) rfl, lw_gm (i := 66) (by decide +kernel) rfl, by decide +kernel, by decide +kernel⟩
theorem iwX6_set : k_iw yX6_set := ⟨lw_gm (i := 340) (by decide +kernel) rfl, lw_gm (i := 341) (by decide +kernel) rfl⟩
theorem mwX6_leak : k_mw yX6_leak cX6_leak 3 (some .int) 2 := ⟨lw_gm (i := 389) (by decide +kernel) rfl, lw_gm (i := 66) (by decide +kernel) rfl, by decide +kernel, by decide +kernel⟩
theorem iwX6_leak : k_iw yX6_leak := ⟨lw_gm (i := 387) (by decide +kernel) rfl, lw_gm (i := 388) (by decide +kernel) rfl⟩
theorem mwX6_lock : k_mw yX6_lock cX6_lock 2 (some .int) 1 := ⟨lw_gm (i := 397) (by decide +kernel) rfl, lw_gm (i := 66) (by decide +kernel) rfl, by decide +kernel, by decide +kernel⟩
theorem iwX6_lock : k_iw yX6_lock := ⟨lw_gm (i := 395) (by decide +kernel) rfl, lw_gm (i := 396) (by decide +kernel) rfl⟩
theorem mwX6_gate : k_mw yX6_gate cX6_gate 2 (some .int) 1 := ⟨lw_gm (i := 405) (by decide +kernel) rfl, lw_gm (i := 66) (by decide +kernel) rfl, by decide +kernel, by decide +kernel⟩
theorem iwX6_gate : k_iw yX6_gate := ⟨lw_gm (i := 403) (by decide +kernel) rfl, lw_gm (i := 404) (by decide +kernel) rfl⟩
theorem mwX6_kind : k_mw yX6_kind cX6_kind 4 (some .int) 3 := ⟨lw_gm (i := 413) (by decide +kernel) rfl, lw_gm (i := 66) (by decide +kernel) rfl, by decide +kernel, by decide +kernel⟩
theorem iwX6_kind : k_iw yX6_kind := ⟨lw_gm (i := 411) (by decide +kernel) rfl, lw_gm (i := 412) (by decide +kernel) rfl⟩
theorem mwX6_farmer : k_mw yX6_farmer cX6_farmer 1 (some .int) 0 := ⟨lw_gm (i := 423) (by decide +kernel) rfl, lw_gm (i := 66) (by decide +kernel) rfl, by decide +kernel, by decide +kernel⟩
theorem iwX6_farmer : k_iw yX6_farmer := ⟨lw_gm (i := 421) (by decide +kernel) rfl, lw_gm (i := 422) (by decide +kernel) rfl⟩
theorem mwX6_bring : k_mw yX6_bring cX6_bring 4 (some .int) 3 := ⟨lw_gm (i := 431) (by decide +kernel) rfl, lw_gm (i := 66) (by decide +kernel) rfl, by decide +kernel, by decide +kernel⟩
theorem iwX6_bring : k_iw yX6_bring := ⟨lw_gm (i := 429) (by decide +kernel) rfl, lw_gm (i := 430) (by decide +kernel) rfl⟩
theorem mwX6_withdraw : k_mw yX6_withdraw cX6_withdraw 2 (some .int) 1 := ⟨lw_gm (i := 455) (by decide +kernel) rfl, lw_gm (i := 66) (by decide +kernel) rfl, by decide +kernel, by decide +kernel⟩
theorem iwX6_withdraw : k_iw yX6_withdraw := ⟨lw_gm (i := 453) (by decide +kernel) rfl, lw_gm (i := 454) (by decide +kernel) rfl⟩
theorem mwX6_fetch : k_mw yX6_fetch cX6_fetch 2 (some .int) 1 := ⟨lw_gm (i := 472) (by decide +kernel) rfl, lw_gm (i := 66) (by decide +kernel) rfl, by decide +kernel, by decide +kernel⟩
theorem iwX6_fetch : k_iw yX6_fetch := ⟨lw_gm (i := 470) (by decide +kernel) rfl, lw_gm (i := 471) (by decide +kernel) rfl⟩
theorem mwX6_kindOf : k_mw yX6_kindOf cX6_kindOf 3 (some .int) 2 := ⟨lw_gm (i := 488) (by decide +kernel) rfl, lw_gm (i := 66) (by decide +kernel) rfl, by decide +kernel, by decide +kernel⟩
theorem iwX6_kindOf : k_iw yX6_kindOf := ⟨lw_gm (i := 486) (by decide +kernel) rfl, lw_gm (i := 487) (by decide +kernel) rfl⟩
theorem mwX6_farmerOf : k_mw yX6_farmerOf cX6_farmerOf 3 (some .int) 2 := ⟨lw_gm (i := 517) (by decide +kernel) rfl, lw_gm (i := 66) (by decide +kernel) rfl, by decide +kernel, by decide +kernel⟩
theorem iwX6_farmerOf : k_iw yX6_farmerOf := ⟨lw_gm (i := 515) (by decide +kernel) rfl, lw_gm (i := 516) (by decide +kernel) rfl⟩
theorem mwX6_sackOf : k_mw yX6_sackOf cX6_sackOf 3 (some .int) 2 := ⟨lw_gm (i := 530) (by decide +kernel) rfl, lw_gm (i := 66) (by decide +kernel) rfl, by decide +kernel, by decide +kernel⟩
theorem iwX6_sackOf : k_iw yX6_sackOf := ⟨lw_gm (i := 528) (by decide +kernel) rfl, lw_gm (i := 529) (by decide +kernel) rfl⟩
theorem mwX6_queueAt : k_mw yX6_queueAt cX6_queueAt 2 (some .int) 1 := ⟨lw_gm (i := 549) (by decide +kernel) rfl, lw_gm (i := 66) (by decide +kernel) rfl, by decide +kernel, by decide +kernel⟩
theorem iwX6_queueAt : k_iw yX6_queueAt := ⟨lw_gm (i := 547) (by decide +kernel) rfl, lw_gm (i := 548) (by decide +kernel) rfl⟩
theorem mwX6_account : k_mw yX6_account cX6_account 5 (some .int) 3 := ⟨lw_gm (i := 558) (by decide +kernel) rfl, lw_gm (i := 66) (by decide +kernel) rfl, by decide +kernel, by decide +kernel⟩
theorem iwX6_account : k_iw yX6_account := ⟨lw_gm (i := 556) (by decide +kernel) rfl, lw_gm (i := 557) (by decide +kernel) rfl⟩
theorem mwX6_earn : k_mw yX6_earn cX6_earn 3 (some .int) 2 := ⟨lw_gm (i := 563) (by decide +kernel) rfl, lw_gm (i := 66) (by decide +kernel) rfl, by decide +kernel, by decide +kernel⟩
theorem iwX6_earn : k_iw yX6_earn := ⟨lw_gm (i := 561) (by decide +kernel) rfl, lw_gm (i := 562) (by decide +kernel) rfl⟩
theorem mwX6_pledge : k_mw yX6_pledge cX6_pledge 3 (some .int) 2 := ⟨lw_gm (i := 573) (by decide +kernel) rfl, lw_gm (i := 66) (by decide +kernel) rfl, by decide +kernel, by decide +kernel⟩
theorem iwX6_pledge : k_iw yX6_pledge := ⟨lw_gm (i := 571) (by decide +kernel) rfl, lw_gm (i := 572) (by decide +kernel) rfl⟩
theorem mwX6_owed : k_mw yX6_owed cX6_owed 2 (some .int) 1 := ⟨lw_gm (i := 590) (by decide +kernel) rfl, lw_gm (i := 66) (by decide +kernel) rfl, by decide +kernel, by decide +kernel⟩
theorem iwX6_owed : k_iw yX6_owed := ⟨lw_gm (i := 588) (by decide +kernel) rfl, lw_gm (i := 589) (by decide +kernel) rfl⟩
theorem mwX6_redeem : k_mw yX6_redeem cX6_redeem 2 (some .int) 1 := ⟨lw_gm (i := 602) (by decide +kernel) rfl, lw_gm (i := 66) (by decide +kernel) rfl, by decide +kernel, by decide +kernel⟩
theorem iwX6_redeem : k_iw yX6_redeem := ⟨lw_gm (i := 600) (by decide +kernel) rfl, lw_gm (i := 601) (by decide +kernel) rfl⟩
theorem mwX6_pledgeAt : k_mw yX6_pledgeAt cX6_pledgeAt 4 (some .int) 2 := ⟨lw_gm (i := 612) (by decide +kernel) rfl, lw_gm (i := 66) (by decide +kernel) rfl, by decide +kernel, by decide +kernel⟩
theorem iwX6_pledgeAt : k_iw yX6_pledgeAt := ⟨lw_gm (i := 610) (by decide +kernel) rfl, lw_gm (i := 611) (by decide +kernel) rfl⟩
theorem mwX6_pass : k_mw yX6_pass cX6_pass 2 (some .int) 1 := ⟨lw_gm (i := 628) (by decide +kernel) rfl, lw_gm (i := 66) (by decide +kernel) rfl, by decide +kernel, by decide +kernel⟩
theorem iwX6_pass : k_iw yX6_pass := ⟨lw_gm (i := 626) (by decide +kernel) rfl, lw_gm (i := 627) (by decide +kernel) rfl⟩
theorem mwX6_seaIn : k_mw yX6_seaIn cX6_seaIn 2 (some .int) 1 := ⟨lw_gm (i := 696) (by decide +kernel) rfl, lw_gm (i := 66) (by decide +kernel) rfl, by decide +kernel, by decide +kernel⟩
theorem iwX6_seaIn : k_iw yX6_seaIn := ⟨lw_gm (i := 694) (by decide +kernel) rfl, lw_gm (i := 695) (by decide +kernel) rfl⟩
theorem mwX6_nextHigh : k_mw yX6_nextHigh cX6_nextHigh 1 (some .int) 0 := ⟨lw_gm (i := 701) (by decide +kernel) rfl, lw_gm (i := 66) (by decide +kernel) rfl, by decide +kernel, by decide +kernel⟩
theorem iwX6_nextHigh : k_iw yX6_nextHigh := ⟨lw_gm (i := 699) (by decide +kernel) rfl, lw_gm (i := 700) (by decide +kernel) rfl⟩
theorem mwX6_pond : k_mw yX6_pond cX6_pond 2 (some .int) 1 := ⟨lw_gm (i := 709) (by decide +kernel) rfl, lw_gm (i := 66) (by decide +kernel) rfl, by decide +kernel, by decide +kernel⟩
theorem iwX6_pond : k_iw yX6_pond := ⟨lw_gm (i := 707) (by decide +kernel) rfl, lw_gm (i := 708) (by decide +kernel) rfl⟩
theorem mwX6_foresee : k_mw yX6_foresee cX6_foresee 3 (some .int) 1 := ⟨lw_gm (i := 717) (by decide +kernel) rfl, lw_gm (i := 66) (by decide +kernel) rfl, by decide +kernel, by decide +kernel⟩
theorem iwX6_foresee : k_iw yX6_foresee := ⟨lw_gm (i := 715) (by decide +kernel) rfl, lw_gm (i := 716) (by decide +kernel) rfl⟩
theorem mwX6_bestGate : k_mw yX6_bestGate cX6_bestGate 6 (some .int) 1 := ⟨lw_gm (i := 724) (by decide +kernel) rfl, lw_gm (i := 66) (by decide +kernel) rfl, by decide +kernel, by decide +kernel⟩
theorem iwX6_bestGate : k_iw yX6_bestGate := ⟨lw_gm (i := 722) (by decide +kernel) rfl, lw_gm (i := 723) (by decide +kernel) rfl⟩
theorem mwX6_count : k_mw yX6_count cX6_count 2 (some .int) 1 := ⟨lw_gm (i := 732) (by decide +kernel) rfl, lw_gm (i := 66) (by decide +kernel) rfl, by decide +kernel, by decide +kernel⟩
theorem iwX6_count : k_iw yX6_count := ⟨lw_gm (i := 730) (by decide +kernel) rfl, lw_gm (i := 731) (by decide +kernel) rfl⟩
theorem mwX6_undo : k_mw yX6_undo cX6_undo 1 (some .int) 0 := ⟨lw_gm (i := 744) (by decide +kernel) rfl, lw_gm (i := 66) (by decide +kernel) rfl, by decide +kernel, by decide +kernel⟩
theorem iwX6_undo : k_iw yX6_undo := ⟨lw_gm (i := 742) (by decide +kernel) rfl, lw_gm (i := 743) (by decide +kernel) rfl⟩
theorem mwX6_type : k_mw yX6_type cX6_type 2 (some .int) 1 := ⟨lw_gm (i := 753) (by decide +kernel) rfl, lw_gm (i := 66) (by decide +kernel) rfl, by decide +kernel, by decide +kernel⟩
theorem iwX6_type : k_iw yX6_type := ⟨lw_gm (i := 751) (by decide +kernel) rfl, lw_gm (i := 752) (by decide +kernel) rfl⟩
theorem mwX6_clearText : k_mw yX6_clearText cX6_clearText 1 (some .int) 0 := ⟨lw_gm (i := 762) (by decide +kernel) rfl, lw_gm (i := 66) (by decide +kernel) rfl, by decide +kernel, by decide +kernel⟩
theorem iwX6_clearText : k_iw yX6_clearText := ⟨lw_gm (i := 760) (by decide +kernel) rfl, lw_gm (i := 761) (by decide +kernel) rfl⟩
theorem mwX6_fault : k_mw yX6_fault cX6_fault 2 (some .int) 1 := ⟨lw_gm (i := 770) (by decide +kernel) rfl, lw_gm (i := 66) (by decide +kernel) rfl, by decide +kernel, by decide +kernel⟩
theorem iwX6_fault : k_iw yX6_fault := ⟨lw_gm (i := 768) (by decide +kernel) rfl, lw_gm (i := 769) (by decide +kernel) rfl⟩
theorem mwX6_play : k_mw yX6_play cX6_play 1 (some .int) 0 := ⟨lw_gm (i := 814) (by decide +kernel) rfl, lw_gm (i := 66) (by decide +kernel) rfl, by decide +kernel, by decide +kernel⟩
theorem iwX6_play : k_iw yX6_play := ⟨lw_gm (i := 812) (by decide +kernel) rfl, lw_gm (i := 813) (by decide +kernel) rfl⟩
theorem mwX6_groundBy : k_mw yX6_groundBy cX6_groundBy 4 (some .int) 2 := ⟨lw_gm (i := 728) (by decide +kernel) rfl, lw_gm (i := 66) (by decide +kernel) rfl, by decide +kernel, by decide +kernel⟩
theorem iwX6_groundBy : k_iw yX6_groundBy := ⟨lw_gm (i := 727) (by decide +kernel) rfl, lw_gm (i := 15) (by decide +kernel) rfl⟩
theorem mwX6_within : k_mw yX6_within cX6_within 3 (some .boolean) 3 := ⟨lw_gm (i := 376) (by decide +kernel) rfl, lw_gm (i := 66) (by decide +kernel) rfl, by decide +kernel, by decide +kernel⟩
theorem swX6_within : Cond.static yX6_within ∈ lw_g := lw_gm (i := 375) (by decide +kernel) rfl
theorem mwX6_quotient : k_mw yX6_quotient cX6_quotient 2 (some .int) 2 := ⟨lw_gm (i := 651) (by decide +kernel) rfl, lw_gm (i := 66) (by decide +kernel) rfl, by decide +kernel, by decide +kernel⟩
theorem swX6_quotient : Cond.static yX6_quotient ∈ lw_g := lw_gm (i := 650) (by decide +kernel) rfl
theorem mwX7_in : k_mw yX7_in cX7_in 3 (some .boolean) 3 := ⟨lw_gm (i := 858) (by decide +kernel) rfl, lw_gm (i := 73) (by decide +kernel) rfl, by decide +kernel, by decide +kernel⟩
theorem swX7_in : Cond.static yX7_in ∈ lw_g := lw_gm (i := 857) (by decide +kernel) rfl
theorem mwX7_isKind : k_mw yX7_isKind cX7_isKind 2 (some .boolean) 1 := ⟨lw_gm (i := 915) (by decide +kernel) rfl, lw_gm (i := 73) (by decide +kernel) rfl, by decide +kernel, by decide +kernel⟩
theorem iwX7_isKind : k_iw yX7_isKind := ⟨lw_gm (i := 914) (by decide +kernel) rfl, lw_gm (i := 28) (by decide +kernel) rfl⟩
theorem mwX7_isFarmer : k_mw yX7_isFarmer cX7_isFarmer 2 (some .boolean) 1 := ⟨lw_gm (i := 911) (by decide +kernel) rfl, lw_gm (i := 73) (by decide +kernel) rfl, by decide +kernel, by decide +kernel⟩
theorem iwX7_isFarmer : k_iw yX7_isFarmer := ⟨lw_gm (i := 910) (by decide +kernel) rfl, lw_gm (i := 27) (by decide +kernel) rfl⟩
theorem mwX7_isSack : k_mw yX7_isSack cX7_isSack 2 (some .boolean) 1 := ⟨lw_gm (i := 927) (by decide +kernel) rfl, lw_gm (i := 73) (by decide +kernel) rfl, by decide +kernel, by decide +kernel⟩
theorem iwX7_isSack : k_iw yX7_isSack := ⟨lw_gm (i := 926) (by decide +kernel) rfl, lw_gm (i := 30) (by decide +kernel) rfl⟩
theorem mwX7_of : k_mw yX7_of cX7_of 3 (some .int) 2 := ⟨lw_gm (i := 931) (by decide +kernel) rfl, lw_gm (i := 73) (by decide +kernel) rfl, by decide +kernel, by decide +kernel⟩
theorem iwX7_of : k_iw yX7_of := ⟨lw_gm (i := 930) (by decide +kernel) rfl, lw_gm (i := 31) (by decide +kernel) rfl⟩
theorem mwX7_put : k_mw yX7_put cX7_put 4 none 3 := ⟨lw_gm (i := 919) (by decide +kernel) rfl, lw_gm (i := 73) (by decide +kernel) rfl, by decide +kernel, by decide +kernel⟩
theorem iwX7_put : k_iw yX7_put := ⟨lw_gm (i := 918) (by decide +kernel) rfl, lw_gm (i := 29) (by decide +kernel) rfl⟩
theorem mwX7_hardness : k_mw yX7_hardness cX7_hardness 2 (some .int) 1 := ⟨lw_gm (i := 996) (by decide +kernel) rfl, lw_gm (i := 73) (by decide +kernel) rfl, by decide +kernel, by decide +kernel⟩
theorem iwX7_hardness : k_iw yX7_hardness := ⟨lw_gm (i := 995) (by decide +kernel) rfl, lw_gm (i := 43) (by decide +kernel) rfl⟩
theorem mwX7_keeps : k_mw yX7_keeps cX7_keeps 2 none 0 := ⟨lw_gm (i := 869) (by decide +kernel) rfl, lw_gm (i := 73) (by decide +kernel) rfl, by decide +kernel, by decide +kernel⟩
theorem iwX7_keeps : k_iw yX7_keeps := ⟨lw_gm (i := 868) (by decide +kernel) rfl, lw_gm (i := 23) (by decide +kernel) rfl⟩
theorem mwX7_acted : k_mw yX7_acted cX7_acted 3 (some .int) 1 := ⟨lw_gm (i := 873) (by decide +kernel) rfl, lw_gm (i := 73) (by decide +kernel) rfl, by decide +kernel, by decide +kernel⟩
theorem iwX7_acted : k_iw yX7_acted := ⟨lw_gm (i := 872) (by decide +kernel) rfl, lw_gm (i := 24) (by decide +kernel) rfl⟩
theorem mwX7_lays : k_mw yX7_lays cX7_lays 2 none 0 := ⟨lw_gm (i := 1107) (by decide +kernel) rfl, lw_gm (i := 73) (by decide +kernel) rfl, by decide +kernel, by decide +kernel⟩
theorem iwX7_lays : k_iw yX7_lays := ⟨lw_gm (i := 1106) (by decide +kernel) rfl, lw_gm (i := 57) (by decide +kernel) rfl⟩
theorem mwX7_restores : k_mw yX7_restores cX7_restores 2 none 0 := ⟨lw_gm (i := 1111) (by decide +kernel) rfl, lw_gm (i := 73) (by decide +kernel) rfl, by decide +kernel, by decide +kernel⟩
theorem iwX7_restores : k_iw yX7_restores := ⟨lw_gm (i := 1110) (by decide +kernel) rfl, lw_gm (i := 58) (by decide +kernel) rfl⟩
theorem mwX7_toll : k_mw yX7_toll cX7_toll 2 (some .int) 1 := ⟨lw_gm (i := 948) (by decide +kernel) rfl, lw_gm (i := 73) (by decide +kernel) rfl, by decide +kernel, by decide +kernel⟩
theorem iwX7_toll : k_iw yX7_toll := ⟨lw_gm (i := 947) (by decide +kernel) rfl, lw_gm (i := 34) (by decide +kernel) rfl⟩
theorem mwX7_dust : k_mw yX7_dust cX7_dust 2 (some .int) 1 := ⟨lw_gm (i := 952) (by decide +kernel) rfl, lw_gm (i := 73) (by decide +kernel) rfl, by decide +kernel, by decide +kernel⟩
theorem iwX7_dust : k_iw yX7_dust := ⟨lw_gm (i := 951) (by decide +kernel) rfl, lw_gm (i := 35) (by decide +kernel) rfl⟩
theorem mwX7_grain : k_mw yX7_grain cX7_grain 2 (some .int) 1 := ⟨lw_gm (i := 972) (by decide +kernel) rfl, lw_gm (i := 73) (by decide +kernel) rfl, by decide +kernel, by decide +kernel⟩
theorem iwX7_grain : k_iw yX7_grain := ⟨lw_gm (i := 971) (by decide +kernel) rfl, lw_gm (i := 39) (by decide +kernel) rfl⟩
theorem mwX7_flour : k_mw yX7_flour cX7_flour 2 (some .int) 1 := ⟨lw_gm (i := 944) (by decide +kernel) rfl, lw_gm (i := 73) (by decide +kernel) rfl, by decide +kernel, by decide +kernel⟩
theorem iwX7_flour : k_iw yX7_flour := ⟨lw_gm (i := 943) (by decide +kernel) rfl, lw_gm (i := 33) (by decide +kernel) rfl⟩
theorem mwX7_came : k_mw yX7_came cX7_came 4 (some .int) 1 := ⟨lw_gm (i := 980) (by decide +kernel) rfl, lw_gm (i := 73) (by decide +kernel) rfl, by decide +kernel, by decide +kernel⟩
theorem iwX7_came : k_iw yX7_came := ⟨lw_gm (i := 979) (by decide +kernel) rfl, lw_gm (i := 40) (by decide +kernel) rfl⟩
theorem mwX7_weight : k_mw yX7_weight cX7_weight 2 (some .int) 1 := ⟨lw_gm (i := 992) (by decide +kernel) rfl, lw_gm (i := 73) (by decide +kernel) rfl, by decide +kernel, by decide +kernel⟩
theorem iwX7_weight : k_iw yX7_weight := ⟨lw_gm (i := 991) (by decide +kernel) rfl, lw_gm (i := 42) (by decide +kernel) rfl⟩
theorem mwX7_placeOf : k_mw yX7_placeOf cX7_placeOf 5 (some .int) 1 := ⟨lw_gm (i := 988) (by decide +kernel) rfl, lw_gm (i := 73) (by decide +kernel) rfl, by decide +kernel, by decide +kernel⟩
theorem iwX7_placeOf : k_iw yX7_placeOf := ⟨lw_gm (i := 987) (by decide +kernel) rfl, lw_gm (i := 41) (by decide +kernel) rfl⟩
theorem mwX7_waitingAt : k_mw yX7_waitingAt cX7_waitingAt 3 (some .int) 1 := ⟨lw_gm (i := 1005) (by decide +kernel) rfl, lw_gm (i := 73) (by decide +kernel) rfl, by decide +kernel, by decide +kernel⟩
theorem iwX7_waitingAt : k_iw yX7_waitingAt := ⟨lw_gm (i := 1004) (by decide +kernel) rfl, lw_gm (i := 44) (by decide +kernel) rfl⟩
theorem mwX7_sacksIn : k_mw yX7_sacksIn cX7_sacksIn 4 (some .int) 1 := ⟨lw_gm (i := 1083) (by decide +kernel) rfl, lw_gm (i := 73) (by decide +kernel) rfl, by decide +kernel, by decide +kernel⟩
theorem iwX7_sacksIn : k_iw yX7_sacksIn := ⟨lw_gm (i := 1082) (by decide +kernel) rfl, lw_gm (i := 55) (by decide +kernel) rfl⟩
theorem mwX7_sea : k_mw yX7_sea cX7_sea 7 (some .int) 1 := ⟨lw_gm (i := 1075) (by decide +kernel) rfl, lw_gm (i := 73) (by decide +kernel) rfl, by decide +kernel, by decide +kernel⟩
theorem iwX7_sea : k_iw yX7_sea := ⟨lw_gm (i := 1074) (by decide +kernel) rfl, lw_gm (i := 53) (by decide +kernel) rfl⟩
theorem mwX7_head : k_mw yX7_head cX7_head 1 (some .int) 0 := ⟨lw_gm (i := 1071) (by decide +kernel) rfl, lw_gm (i := 73) (by decide +kernel) rfl, by decide +kernel, by decide +kernel⟩
theorem iwX7_head : k_iw yX7_head := ⟨lw_gm (i := 1070) (by decide +kernel) rfl, lw_gm (i := 52) (by decide +kernel) rfl⟩
theorem mwX7_falls : k_mw yX7_falls cX7_falls 2 none 0 := ⟨lw_gm (i := 1063) (by decide +kernel) rfl, lw_gm (i := 73) (by decide +kernel) rfl, by decide +kernel, by decide +kernel⟩
theorem iwX7_falls : k_iw yX7_falls := ⟨lw_gm (i := 1062) (by decide +kernel) rfl, lw_gm (i := 50) (by decide +kernel) rfl⟩
theorem mwX7_flows : k_mw yX7_flows cX7_flows 5 none 0 := ⟨lw_gm (i := 1067) (by decide +kernel) rfl, lw_gm (i := 73) (by decide +kernel) rfl, by decide +kernel, by decide +kernel⟩
theorem iwX7_flows : k_iw yX7_flows := ⟨lw_gm (i := 1066) (by decide +kernel) rfl, lw_gm (i := 51) (by decide +kernel) rfl⟩
theorem mwX7_comes : k_mw yX7_comes cX7_comes 2 none 1 := ⟨lw_gm (i := 1087) (by decide +kernel) rfl, lw_gm (i := 73) (by decide +kernel) rfl, by decide +kernel, by decide +kernel⟩
theorem iwX7_comes : k_iw yX7_comes := ⟨lw_gm (i := 1086) (by decide +kernel) rfl, lw_gm (i := 56) (by decide +kernel) rfl⟩
theorem mwX7_grinds : k_mw yX7_grinds cX7_grinds 5 none 0 := ⟨lw_gm (i := 1079) (by decide +kernel) rfl, lw_gm (i := 73) (by decide +kernel) rfl, by decide +kernel, by decide +kernel⟩
theorem iwX7_grinds : k_iw yX7_grinds := ⟨lw_gm (i := 1078) (by decide +kernel) rfl, lw_gm (i := 54) (by decide +kernel) rfl⟩
theorem mwX7_goes : k_mw yX7_goes cX7_goes 1 none 0 := ⟨lw_gm (i := 1059) (by decide +kernel) rfl, lw_gm (i := 73) (by decide +kernel) rfl, by decide +kernel, by decide +kernel⟩
theorem iwX7_goes : k_iw yX7_goes := ⟨lw_gm (i := 1058) (by decide +kernel) rfl, lw_gm (i := 49) (by decide +kernel) rfl⟩
theorem mwX7_gates : k_mw yX7_gates cX7_gates 3 (some .int) 1 := ⟨lw_gm (i := 889) (by decide +kernel) rfl, lw_gm (i := 73) (by decide +kernel) rfl, by decide +kernel, by decide +kernel⟩
theorem iwX7_gates : k_iw yX7_gates := ⟨lw_gm (i := 888) (by decide +kernel) rfl, lw_gm (i := 25) (by decide +kernel) rfl⟩
theorem mwX7_brings : k_mw yX7_brings cX7_brings 6 (some .int) 3 := ⟨lw_gm (i := 907) (by decide +kernel) rfl, lw_gm (i := 73) (by decide +kernel) rfl, by decide +kernel, by decide +kernel⟩
theorem iwX7_brings : k_iw yX7_brings := ⟨lw_gm (i := 906) (by decide +kernel) rfl, lw_gm (i := 26) (by decide +kernel) rfl⟩
theorem mwX7_fetches : k_mw yX7_fetches cX7_fetches 3 (some .int) 1 := ⟨lw_gm (i := 940) (by decide +kernel) rfl, lw_gm (i := 73) (by decide +kernel) rfl, by decide +kernel, by decide +kernel⟩
theorem iwX7_fetches : k_iw yX7_fetches := ⟨lw_gm (i := 939) (by decide +kernel) rfl, lw_gm (i := 32) (by decide +kernel) rfl⟩
theorem mwX7_product : k_mw yX7_product cX7_product 4 (some .int) 2 := ⟨lw_gm (i := 1026) (by decide +kernel) rfl, lw_gm (i := 73) (by decide +kernel) rfl, by decide +kernel, by decide +kernel⟩
theorem swX7_product : Cond.static yX7_product ∈ lw_g := lw_gm (i := 1025) (by decide +kernel) rfl
theorem mwX7_pledges : k_mw yX7_pledges cX7_pledges 6 (some .int) 2 := ⟨lw_gm (i := 1023) (by decide +kernel) rfl, lw_gm (i := 73) (by decide +kernel) rfl, by decide +kernel, by decide +kernel⟩
theorem iwX7_pledges : k_iw yX7_pledges := ⟨lw_gm (i := 1022) (by decide +kernel) rfl, lw_gm (i := 45) (by decide +kernel) rfl⟩
theorem mwX7_owes : k_mw yX7_owes cX7_owes 3 (some .int) 1 := ⟨lw_gm (i := 1035) (by decide +kernel) rfl, lw_gm (i := 73) (by decide +kernel) rfl, by decide +kernel, by decide +kernel⟩
theorem iwX7_owes : k_iw yX7_owes := ⟨lw_gm (i := 1034) (by decide +kernel) rfl, lw_gm (i := 46) (by decide +kernel) rfl⟩
theorem mwX7_redeems : k_mw yX7_redeems cX7_redeems 3 (some .int) 1 := ⟨lw_gm (i := 1043) (by decide +kernel) rfl, lw_gm (i := 73) (by decide +kernel) rfl, by decide +kernel, by decide +kernel⟩
theorem iwX7_redeems : k_iw yX7_redeems := ⟨lw_gm (i := 1042) (by decide +kernel) rfl, lw_gm (i := 47) (by decide +kernel) rfl⟩
theorem mwX7_low : k_mw yX7_low cX7_low 1 (some .int) 1 := ⟨lw_gm (i := 861) (by decide +kernel) rfl, lw_gm (i := 73) (by decide +kernel) rfl, by decide +kernel, by decide +kernel⟩
theorem swX7_low : Cond.static yX7_low ∈ lw_g := lw_gm (i := 860) (by decide +kernel) rfl
theorem mwX7_high : k_mw yX7_high cX7_high 1 (some .int) 1 := ⟨lw_gm (i := 864) (by decide +kernel) rfl, lw_gm (i := 73) (by decide +kernel) rfl, by decide +kernel, by decide +kernel⟩
theorem swX7_high : Cond.static yX7_high ∈ lw_g := lw_gm (i := 863) (by decide +kernel) rfl
theorem mwX7_set : k_mw yX7_set cX7_set 4 (some .int) 2 := ⟨lw_gm (i := 855) (by decide +kernel) rfl, lw_gm (i := 73) (by decide +kernel) rfl, by decide +kernel, by decide +kernel⟩
theorem iwX7_set : k_iw yX7_set := ⟨lw_gm (i := 853) (by decide +kernel) rfl, lw_gm (i := 854) (by decide +kernel) rfl⟩
theorem mwX7_leak : k_mw yX7_leak cX7_leak 4 (some .int) 2 := ⟨lw_gm (i := 877) (by decide +kernel) rfl, lw_gm (i := 73) (by decide +kernel) rfl, by decide +kernel, by decide +kernel⟩
theorem iwX7_leak : k_iw yX7_leak := ⟨lw_gm (i := 875) (by decide +kernel) rfl, lw_gm (i := 876) (by decide +kernel) rfl⟩
theorem mwX7_lock : k_mw yX7_lock cX7_lock 3 (some .int) 1 := ⟨lw_gm (i := 881) (by decide +kernel) rfl, lw_gm (i := 73) (by decide +kernel) rfl, by decide +kernel, by decide +kernel⟩
theorem iwX7_lock : k_iw yX7_lock := ⟨lw_gm (i := 879) (by decide +kernel) rfl, lw_gm (i := 880) (by decide +kernel) rfl⟩
theorem mwX7_gate : k_mw yX7_gate cX7_gate 2 (some .int) 1 := ⟨lw_gm (i := 885) (by decide +kernel) rfl, lw_gm (i := 73) (by decide +kernel) rfl, by decide +kernel, by decide +kernel⟩
theorem iwX7_gate : k_iw yX7_gate := ⟨lw_gm (i := 883) (by decide +kernel) rfl, lw_gm (i := 884) (by decide +kernel) rfl⟩
theorem mwX7_kind : k_mw yX7_kind cX7_kind 5 (some .int) 3 := ⟨lw_gm (i := 893) (by decide +kernel) rfl, lw_gm (i := 73) (by decide +kernel) rfl, by decide +kernel, by decide +kernel⟩
theorem iwX7_kind : k_iw yX7_kind := ⟨lw_gm (i := 891) (by decide +kernel) rfl, lw_gm (i := 892) (by decide +kernel) rfl⟩
theorem mwX7_farmer : k_mw yX7_farmer cX7_farmer 1 (some .int) 0 := ⟨lw_gm (i := 899) (by decide +kernel) rfl, lw_gm (i := 73) (by decide +kernel) rfl, by decide +kernel, by decide +kernel⟩
theorem iwX7_farmer : k_iw yX7_farmer := ⟨lw_gm (i := 897) (by decide +kernel) rfl, lw_gm (i := 898) (by decide +kernel) rfl⟩
theorem mwX7_bring : k_mw yX7_bring cX7_bring 4 (some .int) 3 := ⟨lw_gm (i := 903) (by decide +kernel) rfl, lw_gm (i := 73) (by decide +kernel) rfl, by decide +kernel, by decide +kernel⟩
theorem iwX7_bring : k_iw yX7_bring := ⟨lw_gm (i := 901) (by decide +kernel) rfl, lw_gm (i := 902) (by decide +kernel) rfl⟩
theorem mwX7_withdraw : k_mw yX7_withdraw cX7_withdraw 2 (some .int) 1 := ⟨lw_gm (i := 923) (by decide +kernel) rfl, lw_gm (i := 73) (by decide +kernel) rfl, by decide +kernel, by decide +kernel⟩
theorem iwX7_withdraw : k_iw yX7_withdraw := ⟨lw_gm (i := 921) (by decide +kernel) rfl, lw_gm (i := 922) (by decide +kernel) rfl⟩
theorem mwX7_fetch : k_mw yX7_fetch cX7_fetch 2 (some .int) 1 := ⟨lw_gm (i := 936) (by decide +kernel) rfl, lw_gm (i := 73) (by decide +kernel) rfl, by decide +kernel, by decide +kernel⟩
theorem iwX7_fetch : k_iw yX7_fetch := ⟨lw_gm (i := 934) (by decide +kernel) rfl, lw_gm (i := 935) (by decide +kernel) rfl⟩
theorem mwX7_told : k_mw yX7_told cX7_told 3 (some .int) 2 := ⟨lw_gm (i := 968) (by decide +kernel) rfl, lw_gm (i := 73) (by decide +kernel) rfl, by decide +kernel, by decide +kernel⟩
theorem iwX7_told : k_iw yX7_told := ⟨lw_gm (i := 967) (by decide +kernel) rfl, lw_gm (i := 38) (by decide +kernel) rfl⟩
theorem mwX7_sum : k_mw yX7_sum cX7_sum 7 (some .int) 3 := ⟨lw_gm (i := 964) (by decide +kernel) rfl, lw_gm (i := 73) (by decide +kernel) rfl, by decide +kernel, by decide +kernel⟩
theorem iwX7_sum : k_iw yX7_sum := ⟨lw_gm (i := 963) (by decide +kernel) rfl, lw_gm (i := 37) (by decide +kernel) rfl⟩
theorem mwX7_many : k_mw yX7_many cX7_many 7 (some .int) 3 := ⟨lw_gm (i := 960) (by decide +kernel) rfl, lw_gm (i := 73) (by decide +kernel) rfl, by decide +kernel, by decide +kernel⟩
theorem iwX7_many : k_iw yX7_many := ⟨lw_gm (i := 959) (by decide +kernel) rfl, lw_gm (i := 36) (by decide +kernel) rfl⟩
theorem mwX7_kindOf : k_mw yX7_kindOf cX7_kindOf 3 (some .int) 2 := ⟨lw_gm (i := 956) (by decide +kernel) rfl, lw_gm (i := 73) (by decide +kernel) rfl, by decide +kernel, by decide +kernel⟩
theorem iwX7_kindOf : k_iw yX7_kindOf := ⟨lw_gm (i := 954) (by decide +kernel) rfl, lw_gm (i := 955) (by decide +kernel) rfl⟩
theorem mwX7_farmerOf : k_mw yX7_farmerOf cX7_farmerOf 3 (some .int) 2 := ⟨lw_gm (i := 976) (by decide +kernel) rfl, lw_gm (i := 73) (by decide +kernel) rfl, by decide +kernel, by decide +kernel⟩
theorem iwX7_farmerOf : k_iw yX7_farmerOf := ⟨lw_gm (i := 974) (by decide +kernel) rfl, lw_gm (i := 975) (by decide +kernel) rfl⟩
theorem mwX7_sackOf : k_mw yX7_sackOf cX7_sackOf 3 (some .int) 2 := ⟨lw_gm (i := 984) (by decide +kernel) rfl, lw_gm (i := 73) (by decide +kernel) rfl, by decide +kernel, by decide +kernel⟩
theorem iwX7_sackOf : k_iw yX7_sackOf := ⟨lw_gm (i := 982) (by decide +kernel) rfl, lw_gm (i := 983) (by decide +kernel) rfl⟩
theorem mwX7_queueAt : k_mw yX7_queueAt cX7_queueAt 3 (some .int) 1 := ⟨lw_gm (i := 1001) (by decide +kernel) rfl, lw_gm (i := 73) (by decide +kernel) rfl, by decide +kernel, by decide +kernel⟩
theorem iwX7_queueAt : k_iw yX7_queueAt := ⟨lw_gm (i := 999) (by decide +kernel) rfl, lw_gm (i := 1000) (by decide +kernel) rfl⟩
theorem mwX7_account : k_mw yX7_account cX7_account 4 (some .int) 3 := ⟨lw_gm (i := 1009) (by decide +kernel) rfl, lw_gm (i := 73) (by decide +kernel) rfl, by decide +kernel, by decide +kernel⟩
theorem iwX7_account : k_iw yX7_account := ⟨lw_gm (i := 1007) (by decide +kernel) rfl, lw_gm (i := 1008) (by decide +kernel) rfl⟩
theorem mwX7_earn : k_mw yX7_earn cX7_earn 3 (some .int) 2 := ⟨lw_gm (i := 1013) (by decide +kernel) rfl, lw_gm (i := 73) (by decide +kernel) rfl, by decide +kernel, by decide +kernel⟩
theorem iwX7_earn : k_iw yX7_earn := ⟨lw_gm (i := 1011) (by decide +kernel) rfl, lw_gm (i := 1012) (by decide +kernel) rfl⟩
theorem mwX7_pledge : k_mw yX7_pledge cX7_pledge 3 (some .int) 2 := ⟨lw_gm (i := 1019) (by decide +kernel) rfl, lw_gm (i := 73) (by decide +kernel) rfl, by decide +kernel, by decide +kernel⟩
theorem iwX7_pledge : k_iw yX7_pledge := ⟨lw_gm (i := 1017) (by decide +kernel) rfl, lw_gm (i := 1018) (by decide +kernel) rfl⟩
theorem mwX7_owed : k_mw yX7_owed cX7_owed 2 (some .int) 1 := ⟨lw_gm (i := 1031) (by decide +kernel) rfl, lw_gm (i := 73) (by decide +kernel) rfl, by decide +kernel, by decide +kernel⟩
theorem iwX7_owed : k_iw yX7_owed := ⟨lw_gm (i := 1029) (by decide +kernel) rfl, lw_gm (i := 1030) (by decide +kernel) rfl⟩
theorem mwX7_redeem : k_mw yX7_redeem cX7_redeem 2 (some .int) 1 := ⟨lw_gm (i := 1039) (by decide +kernel) rfl, lw_gm (i := 73) (by decide +kernel) rfl, by decide +kernel, by decide +kernel⟩
theorem iwX7_redeem : k_iw yX7_redeem := ⟨lw_gm (i := 1037) (by decide +kernel) rfl, lw_gm (i := 1038) (by decide +kernel) rfl⟩
theorem mwX7_ahead : k_mw yX7_ahead cX7_ahead 5 (some .int) 1 := ⟨lw_gm (i := 1051) (by decide +kernel) rfl, lw_gm (i := 73) (by decide +kernel) rfl, by decide +kernel, by decide +kernel⟩
theorem iwX7_ahead : k_iw yX7_ahead := ⟨lw_gm (i := 1050) (by decide +kernel) rfl, lw_gm (i := 48) (by decide +kernel) rfl⟩
theorem mwX7_pledgeAt : k_mw yX7_pledgeAt cX7_pledgeAt 4 (some .int) 2 := ⟨lw_gm (i := 1047) (by decide +kernel) rfl, lw_gm (i := 73) (by decide +kernel) rfl, by decide +kernel, by decide +kernel⟩
theorem iwX7_pledgeAt : k_iw yX7_pledgeAt := ⟨lw_gm (i := 1045) (by decide +kernel) rfl, lw_gm (i := 1046) (by decide +kernel) rfl⟩
theorem mwX7_pass : k_mw yX7_pass cX7_pass 3 (some .int) 1 := ⟨lw_gm (i := 1055) (by decide +kernel) rfl, lw_gm (i := 73) (by decide +kernel) rfl, by decide +kernel, by decide +kernel⟩
theorem iwX7_pass : k_iw yX7_pass := ⟨lw_gm (i := 1053) (by decide +kernel) rfl, lw_gm (i := 1054) (by decide +kernel) rfl⟩
theorem mwX7_seaIn : k_mw yX7_seaIn cX7_seaIn 2 (some .int) 1 := ⟨lw_gm (i := 1091) (by decide +kernel) rfl, lw_gm (i := 73) (by decide +kernel) rfl, by decide +kernel, by decide +kernel⟩
theorem iwX7_seaIn : k_iw yX7_seaIn := ⟨lw_gm (i := 1089) (by decide +kernel) rfl, lw_gm (i := 1090) (by decide +kernel) rfl⟩
theorem mwX7_nextHigh : k_mw yX7_nextHigh cX7_nextHigh 2 (some .int) 0 := ⟨lw_gm (i := 1095) (by decide +kernel) rfl, lw_gm (i := 73) (by decide +kernel) rfl, by decide +kernel, by decide +kernel⟩
theorem iwX7_nextHigh : k_iw yX7_nextHigh := ⟨lw_gm (i := 1093) (by decide +kernel) rfl, lw_gm (i := 1094) (by decide +kernel) rfl⟩
theorem mwX7_pond : k_mw yX7_pond cX7_pond 2 (some .int) 1 := ⟨lw_gm (i := 1099) (by decide +kernel) rfl, lw_gm (i := 73) (by decide +kernel) rfl, by decide +kernel, by decide +kernel⟩
theorem iwX7_pond : k_iw yX7_pond := ⟨lw_gm (i := 1097) (by decide +kernel) rfl, lw_gm (i := 1098) (by decide +kernel) rfl⟩
theorem mwX7_foresee : k_mw yX7_foresee cX7_foresee 4 (some .int) 1 := ⟨lw_gm (i := 1103) (by decide +kernel) rfl, lw_gm (i := 73) (by decide +kernel) rfl, by decide +kernel, by decide +kernel⟩
theorem iwX7_foresee : k_iw yX7_foresee := ⟨lw_gm (i := 1101) (by decide +kernel) rfl, lw_gm (i := 1102) (by decide +kernel) rfl⟩
theorem mwX7_bestGate : k_mw yX7_bestGate cX7_bestGate 6 (some .int) 1 := ⟨lw_gm (i := 1115) (by decide +kernel) rfl, lw_gm (i := 73) (by decide +kernel) rfl, by decide +kernel, by decide +kernel⟩
theorem iwX7_bestGate : k_iw yX7_bestGate := ⟨lw_gm (i := 1113) (by decide +kernel) rfl, lw_gm (i := 1114) (by decide +kernel) rfl⟩
theorem mwX7_count : k_mw yX7_count cX7_count 2 (some .int) 1 := ⟨lw_gm (i := 1119) (by decide +kernel) rfl, lw_gm (i := 73) (by decide +kernel) rfl, by decide +kernel, by decide +kernel⟩
theorem iwX7_count : k_iw yX7_count := ⟨lw_gm (i := 1117) (by decide +kernel) rfl, lw_gm (i := 1118) (by decide +kernel) rfl⟩
theorem mwX7_undo : k_mw yX7_undo cX7_undo 2 (some .int) 0 := ⟨lw_gm (i := 1123) (by decide +kernel) rfl, lw_gm (i := 73) (by decide +kernel) rfl, by decide +kernel, by decide +kernel⟩
theorem iwX7_undo : k_iw yX7_undo := ⟨lw_gm (i := 1121) (by decide +kernel) rfl, lw_gm (i := 1122) (by decide +kernel) rfl⟩
theorem mwX7_type : k_mw yX7_type cX7_type 2 (some .int) 1 := ⟨lw_gm (i := 1127) (by decide +kernel) rfl, lw_gm (i := 73) (by decide +kernel) rfl, by decide +kernel, by decide +kernel⟩
theorem iwX7_type : k_iw yX7_type := ⟨lw_gm (i := 1125) (by decide +kernel) rfl, lw_gm (i := 1126) (by decide +kernel) rfl⟩
theorem mwX7_clearText : k_mw yX7_clearText cX7_clearText 2 (some .int) 0 := ⟨lw_gm (i := 1131) (by decide +kernel) rfl, lw_gm (i := 73) (by decide +kernel) rfl, by decide +kernel, by decide +kernel⟩
theorem iwX7_clearText : k_iw yX7_clearText := ⟨lw_gm (i := 1129) (by decide +kernel) rfl, lw_gm (i := 1130) (by decide +kernel) rfl⟩
theorem mwX7_passes : k_mw yX7_passes cX7_passes 3 (some .boolean) 1 := ⟨lw_gm (i := 1154) (by decide +kernel) rfl, lw_gm (i := 73) (by decide +kernel) rfl, by decide +kernel, by decide +kernel⟩
theorem iwX7_passes : k_iw yX7_passes := ⟨lw_gm (i := 1153) (by decide +kernel) rfl, lw_gm (i := 62) (by decide +kernel) rfl⟩
theorem mwX7_takes : k_mw yX7_takes cX7_takes 3 (some .boolean) 1 := ⟨lw_gm (i := 1158) (by decide +kernel) rfl, lw_gm (i := 73) (by decide +kernel) rfl, by decide +kernel, by decide +kernel⟩
theorem iwX7_takes : k_iw yX7_takes := ⟨lw_gm (i := 1157) (by decide +kernel) rfl, lw_gm (i := 63) (by decide +kernel) rfl⟩
theorem mwX7_numbers : k_mw yX7_numbers cX7_numbers 1 (some .int) 1 := ⟨lw_gm (i := 1146) (by decide +kernel) rfl, lw_gm (i := 73) (by decide +kernel) rfl, by decide +kernel, by decide +kernel⟩
theorem swX7_numbers : Cond.static yX7_numbers ∈ lw_g := lw_gm (i := 1145) (by decide +kernel) rfl
theorem mwX7_readsForm : k_mw yX7_readsForm cX7_readsForm 4 (some .boolean) 1 := ⟨lw_gm (i := 1150) (by decide +kernel) rfl, lw_gm (i := 73) (by decide +kernel) rfl, by decide +kernel, by decide +kernel⟩
theorem iwX7_readsForm : k_iw yX7_readsForm := ⟨lw_gm (i := 1149) (by decide +kernel) rfl, lw_gm (i := 61) (by decide +kernel) rfl⟩
theorem mwX7_does : k_mw yX7_does cX7_does 2 (some .int) 1 := ⟨lw_gm (i := 1162) (by decide +kernel) rfl, lw_gm (i := 73) (by decide +kernel) rfl, by decide +kernel, by decide +kernel⟩
theorem iwX7_does : k_iw yX7_does := ⟨lw_gm (i := 1161) (by decide +kernel) rfl, lw_gm (i := 64) (by decide +kernel) rfl⟩
theorem mwX7_doesNext : k_mw yX7_doesNext cX7_doesNext 3 (some .int) 0 := ⟨lw_gm (i := 1143) (by decide +kernel) rfl, lw_gm (i := 73) (by decide +kernel) rfl, by decide +kernel, by decide +kernel⟩
theorem iwX7_doesNext : k_iw yX7_doesNext := ⟨lw_gm (i := 1142) (by decide +kernel) rfl, lw_gm (i := 60) (by decide +kernel) rfl⟩
theorem mwX7_faulty : k_mw yX7_faulty cX7_faulty 3 (some .int) 0 := ⟨lw_gm (i := 1139) (by decide +kernel) rfl, lw_gm (i := 73) (by decide +kernel) rfl, by decide +kernel, by decide +kernel⟩
theorem iwX7_faulty : k_iw yX7_faulty := ⟨lw_gm (i := 1138) (by decide +kernel) rfl, lw_gm (i := 59) (by decide +kernel) rfl⟩
theorem mwX7_fault : k_mw yX7_fault cX7_fault 3 (some .int) 1 := ⟨lw_gm (i := 1135) (by decide +kernel) rfl, lw_gm (i := 73) (by decide +kernel) rfl, by decide +kernel, by decide +kernel⟩
theorem iwX7_fault : k_iw yX7_fault := ⟨lw_gm (i := 1133) (by decide +kernel) rfl, lw_gm (i := 1134) (by decide +kernel) rfl⟩
theorem mwX7_play : k_mw yX7_play cX7_play 2 (some .int) 0 := ⟨lw_gm (i := 1166) (by decide +kernel) rfl, lw_gm (i := 73) (by decide +kernel) rfl, by decide +kernel, by decide +kernel⟩
theorem iwX7_play : k_iw yX7_play := ⟨lw_gm (i := 1164) (by decide +kernel) rfl, lw_gm (i := 1165) (by decide +kernel) rfl⟩
theorem mlL_13 : Cond.methodLink RL 13 yX6_set ∈ lw_g := lw_gm (i := 339) (by decide +kernel) rfl
theorem mlX6_33 : Cond.methodLink RX6 33 yX1_hold ∈ lw_g := lw_gm (i := 343) (by decide +kernel) rfl
theorem mlX1_25 : Cond.methodLink RX1 25 yX3_copyFrom ∈ lw_g := lw_gm (i := 347) (by decide +kernel) rfl
theorem mlX3_63 : Cond.methodLink RX3 63 yX3_copyGrainFrom ∈ lw_g := lw_gm (i := 354) (by decide +kernel) rfl
theorem mlX3_100 : Cond.methodLink RX3 100 yX2_takeFrom ∈ lw_g := lw_gm (i := 358) (by decide +kernel) rfl
theorem mlX3_104 : Cond.methodLink RX3 104 yX0_takeFrom ∈ lw_g := lw_gm (i := 362) (by decide +kernel) rfl
theorem mlX3_107 : Cond.methodLink RX3 107 yX5_takeFrom ∈ lw_g := lw_gm (i := 366) (by decide +kernel) rfl
theorem mlX6_37 : Cond.methodLink RX6 37 yX3_changeSetting ∈ lw_g := lw_gm (i := 370) (by decide +kernel) rfl
theorem mlX6_41 : Cond.methodLink RX6 41 yX1_keepIfDone ∈ lw_g := lw_gm (i := 382) (by decide +kernel) rfl
theorem mlL_18 : Cond.methodLink RL 18 yX6_leak ∈ lw_g := lw_gm (i := 386) (by decide +kernel) rfl
theorem mlX6_45 : Cond.methodLink RX6 45 yX3_changeLeak ∈ lw_g := lw_gm (i := 390) (by decide +kernel) rfl
theorem mlL_22 : Cond.methodLink RL 22 yX6_lock ∈ lw_g := lw_gm (i := 394) (by decide +kernel) rfl
theorem mlX6_48 : Cond.methodLink RX6 48 yX3_changeLock ∈ lw_g := lw_gm (i := 398) (by decide +kernel) rfl
theorem mlL_27 : Cond.methodLink RL 27 yX6_gate ∈ lw_g := lw_gm (i := 402) (by decide +kernel) rfl
theorem mlX6_51 : Cond.methodLink RX6 51 yX3_changeOpening ∈ lw_g := lw_gm (i := 406) (by decide +kernel) rfl
theorem mlL_31 : Cond.methodLink RL 31 yX6_kind ∈ lw_g := lw_gm (i := 410) (by decide +kernel) rfl
theorem mlX6_54 : Cond.methodLink RX6 54 yX3_addKind ∈ lw_g := lw_gm (i := 414) (by decide +kernel) rfl
theorem mlL_36 : Cond.methodLink RL 36 yX6_farmer ∈ lw_g := lw_gm (i := 420) (by decide +kernel) rfl
theorem mlX6_58 : Cond.methodLink RX6 58 yX3_addFarmer ∈ lw_g := lw_gm (i := 424) (by decide +kernel) rfl
theorem mlL_41 : Cond.methodLink RL 41 yX6_bring ∈ lw_g := lw_gm (i := 428) (by decide +kernel) rfl
theorem mlX6_62 : Cond.methodLink RX6 62 yX3_addSack ∈ lw_g := lw_gm (i := 432) (by decide +kernel) rfl
theorem mlX3_138 : Cond.methodLink RX3 138 yX3_hasFarmer ∈ lw_g := lw_gm (i := 436) (by decide +kernel) rfl
theorem mlX3_142 : Cond.methodLink RX3 142 yX3_hasKind ∈ lw_g := lw_gm (i := 440) (by decide +kernel) rfl
theorem mlX3_145 : Cond.methodLink RX3 145 yX5_begin ∈ lw_g := lw_gm (i := 444) (by decide +kernel) rfl
theorem mlX5_68 : Cond.methodLink RX5 68 yX5_endPledge ∈ lw_g := lw_gm (i := 448) (by decide +kernel) rfl
theorem mlL_45 : Cond.methodLink RL 45 yX6_withdraw ∈ lw_g := lw_gm (i := 452) (by decide +kernel) rfl
theorem mlX6_65 : Cond.methodLink RX6 65 yX3_withdrawSack ∈ lw_g := lw_gm (i := 456) (by decide +kernel) rfl
theorem mlX3_149 : Cond.methodLink RX3 149 yX3_hasSack ∈ lw_g := lw_gm (i := 460) (by decide +kernel) rfl
theorem mlX3_156 : Cond.methodLink RX3 156 yX5_grain ∈ lw_g := lw_gm (i := 465) (by decide +kernel) rfl
theorem mlL_49 : Cond.methodLink RL 49 yX6_fetch ∈ lw_g := lw_gm (i := 469) (by decide +kernel) rfl
theorem mlX6_68 : Cond.methodLink RX6 68 yX3_fetchSack ∈ lw_g := lw_gm (i := 473) (by decide +kernel) rfl
theorem mlX3_163 : Cond.methodLink RX3 163 yX5_hasPledge ∈ lw_g := lw_gm (i := 477) (by decide +kernel) rfl
theorem mlX3_167 : Cond.methodLink RX3 167 yX5_flour ∈ lw_g := lw_gm (i := 481) (by decide +kernel) rfl
theorem mlL_53 : Cond.methodLink RL 53 yX6_kindOf ∈ lw_g := lw_gm (i := 485) (by decide +kernel) rfl
theorem mlX6_71 : Cond.methodLink RX6 71 yX3_hasKind ∈ lw_g := lw_gm (i := 489) (by decide +kernel) rfl
theorem mlX6_75 : Cond.methodLink RX6 75 yX6_within ∈ lw_g := lw_gm (i := 490) (by decide +kernel) rfl
theorem mlX6_80 : Cond.methodLink RX6 80 yX3_tellKind ∈ lw_g := lw_gm (i := 492) (by decide +kernel) rfl
theorem mlX3_170 : Cond.methodLink RX3 170 yX3_sacksBrought ∈ lw_g := lw_gm (i := 496) (by decide +kernel) rfl
theorem mlX3_182 : Cond.methodLink RX3 182 yX5_isOf ∈ lw_g := lw_gm (i := 500) (by decide +kernel) rfl
theorem mlX3_174 : Cond.methodLink RX3 174 yX3_sumOf ∈ lw_g := lw_gm (i := 504) (by decide +kernel) rfl
theorem mlX3_186 : Cond.methodLink RX3 186 yX5_tell ∈ lw_g := lw_gm (i := 508) (by decide +kernel) rfl
theorem mlX5_71 : Cond.methodLink RX5 71 yX5_grain ∈ lw_g := lw_gm (i := 512) (by decide +kernel) rfl
theorem mlX5_75 : Cond.methodLink RX5 75 yX5_flour ∈ lw_g := lw_gm (i := 513) (by decide +kernel) rfl
theorem mlL_57 : Cond.methodLink RL 57 yX6_farmerOf ∈ lw_g := lw_gm (i := 514) (by decide +kernel) rfl
theorem mlX6_83 : Cond.methodLink RX6 83 yX3_hasFarmer ∈ lw_g := lw_gm (i := 518) (by decide +kernel) rfl
theorem mlX6_86 : Cond.methodLink RX6 86 yX3_tellFarmer ∈ lw_g := lw_gm (i := 519) (by decide +kernel) rfl
theorem mlX3_178 : Cond.methodLink RX3 178 yX3_pledgesOf ∈ lw_g := lw_gm (i := 523) (by decide +kernel) rfl
theorem mlL_61 : Cond.methodLink RL 61 yX6_sackOf ∈ lw_g := lw_gm (i := 527) (by decide +kernel) rfl
theorem mlX6_89 : Cond.methodLink RX6 89 yX3_hasSack ∈ lw_g := lw_gm (i := 531) (by decide +kernel) rfl
theorem mlX6_92 : Cond.methodLink RX6 92 yX3_placeInQueue ∈ lw_g := lw_gm (i := 532) (by decide +kernel) rfl
theorem mlX3_190 : Cond.methodLink RX3 190 yX3_waitsAheadOf ∈ lw_g := lw_gm (i := 537) (by decide +kernel) rfl
theorem mlX3_196 : Cond.methodLink RX3 196 yX3_rankInQueue ∈ lw_g := lw_gm (i := 541) (by decide +kernel) rfl
theorem mlX6_99 : Cond.methodLink RX6 99 yX5_tell ∈ lw_g := lw_gm (i := 545) (by decide +kernel) rfl
theorem mlL_65 : Cond.methodLink RL 65 yX6_queueAt ∈ lw_g := lw_gm (i := 546) (by decide +kernel) rfl
theorem mlX6_104 : Cond.methodLink RX6 104 yX3_sackAtPlace ∈ lw_g := lw_gm (i := 550) (by decide +kernel) rfl
theorem mlX3_193 : Cond.methodLink RX3 193 yX3_placeInQueue ∈ lw_g := lw_gm (i := 554) (by decide +kernel) rfl
theorem mlL_69 : Cond.methodLink RL 69 yX6_account ∈ lw_g := lw_gm (i := 555) (by decide +kernel) rfl
theorem mlX6_107 : Cond.methodLink RX6 107 yX3_sumOf ∈ lw_g := lw_gm (i := 559) (by decide +kernel) rfl
theorem mlL_73 : Cond.methodLink RL 73 yX6_earn ∈ lw_g := lw_gm (i := 560) (by decide +kernel) rfl
theorem mlX6_110 : Cond.methodLink RX6 110 yX3_addPence ∈ lw_g := lw_gm (i := 564) (by decide +kernel) rfl
theorem mlL_77 : Cond.methodLink RL 77 yX6_pledge ∈ lw_g := lw_gm (i := 570) (by decide +kernel) rfl
theorem mlX6_113 : Cond.methodLink RX6 113 yX3_putInPledge ∈ lw_g := lw_gm (i := 574) (by decide +kernel) rfl
theorem mlX3_213 : Cond.methodLink RX3 213 yX3_loanFor ∈ lw_g := lw_gm (i := 578) (by decide +kernel) rfl
theorem mlX3_223 : Cond.methodLink RX3 223 yX3_today ∈ lw_g := lw_gm (i := 583) (by decide +kernel) rfl
theorem mlL_81 : Cond.methodLink RL 81 yX6_owed ∈ lw_g := lw_gm (i := 587) (by decide +kernel) rfl
theorem mlX6_116 : Cond.methodLink RX6 116 yX5_hasPledge ∈ lw_g := lw_gm (i := 591) (by decide +kernel) rfl
theorem mlX6_120 : Cond.methodLink RX6 120 yX3_debtOf ∈ lw_g := lw_gm (i := 592) (by decide +kernel) rfl
theorem mlL_85 : Cond.methodLink RL 85 yX6_redeem ∈ lw_g := lw_gm (i := 599) (by decide +kernel) rfl
theorem mlX6_125 : Cond.methodLink RX6 125 yX3_redeemPledge ∈ lw_g := lw_gm (i := 603) (by decide +kernel) rfl
theorem mlX3_238 : Cond.methodLink RX3 238 yX3_debtOf ∈ lw_g := lw_gm (i := 607) (by decide +kernel) rfl
theorem mlX3_241 : Cond.methodLink RX3 241 yX5_endPledge ∈ lw_g := lw_gm (i := 608) (by decide +kernel) rfl
theorem mlL_89 : Cond.methodLink RL 89 yX6_pledgeAt ∈ lw_g := lw_gm (i := 609) (by decide +kernel) rfl
theorem mlX6_128 : Cond.methodLink RX6 128 yX3_sackOfPledge ∈ lw_g := lw_gm (i := 613) (by decide +kernel) rfl
theorem mlX3_244 : Cond.methodLink RX3 244 yX3_pledgesAheadOf ∈ lw_g := lw_gm (i := 617) (by decide +kernel) rfl
theorem mlX6_131 : Cond.methodLink RX6 131 yX3_tellPledge ∈ lw_g := lw_gm (i := 621) (by decide +kernel) rfl
theorem mlL_93 : Cond.methodLink RL 93 yX6_pass ∈ lw_g := lw_gm (i := 625) (by decide +kernel) rfl
theorem mlX6_134 : Cond.methodLink RX6 134 yX3_letPass ∈ lw_g := lw_gm (i := 629) (by decide +kernel) rfl
theorem mlX3_250 : Cond.methodLink RX3 250 yX3_step ∈ lw_g := lw_gm (i := 633) (by decide +kernel) rfl
theorem mlX3_253 : Cond.methodLink RX3 253 yX3_dropOldPledges ∈ lw_g := lw_gm (i := 637) (by decide +kernel) rfl
theorem mlX3_247 : Cond.methodLink RX3 247 yX5_fall ∈ lw_g := lw_gm (i := 641) (by decide +kernel) rfl
theorem mlX3_256 : Cond.methodLink RX3 256 yX3_seaAt ∈ lw_g := lw_gm (i := 645) (by decide +kernel) rfl
theorem mlX3_259 : Cond.methodLink RX3 259 yX3_flowIn ∈ lw_g := lw_gm (i := 655) (by decide +kernel) rfl
theorem mlX3_277 : Cond.methodLink RX3 277 yX3_level ∈ lw_g := lw_gm (i := 659) (by decide +kernel) rfl
theorem mlX3_263 : Cond.methodLink RX3 263 yX3_leakOut ∈ lw_g := lw_gm (i := 666) (by decide +kernel) rfl
theorem mlX3_266 : Cond.methodLink RX3 266 yX3_grind ∈ lw_g := lw_gm (i := 670) (by decide +kernel) rfl
theorem mlX3_283 : Cond.methodLink RX3 283 yX3_firstOfQueue ∈ lw_g := lw_gm (i := 674) (by decide +kernel) rfl
theorem mlX3_286 : Cond.methodLink RX3 286 yX3_putOnStones ∈ lw_g := lw_gm (i := 678) (by decide +kernel) rfl
theorem mlX3_289 : Cond.methodLink RX3 289 yX3_grindSack ∈ lw_g := lw_gm (i := 682) (by decide +kernel) rfl
theorem mlX3_299 : Cond.methodLink RX3 299 yX5_addGround ∈ lw_g := lw_gm (i := 689) (by decide +kernel) rfl
theorem mlL_97 : Cond.methodLink RL 97 yX6_seaIn ∈ lw_g := lw_gm (i := 693) (by decide +kernel) rfl
theorem mlX6_141 : Cond.methodLink RX6 141 yX3_seaAt ∈ lw_g := lw_gm (i := 697) (by decide +kernel) rfl
theorem mlL_101 : Cond.methodLink RL 101 yX6_nextHigh ∈ lw_g := lw_gm (i := 698) (by decide +kernel) rfl
theorem mlX6_144 : Cond.methodLink RX6 144 yX3_stepsToHigh ∈ lw_g := lw_gm (i := 702) (by decide +kernel) rfl
theorem mlL_105 : Cond.methodLink RL 105 yX6_pond ∈ lw_g := lw_gm (i := 706) (by decide +kernel) rfl
theorem mlX6_147 : Cond.methodLink RX6 147 yX3_tellPond ∈ lw_g := lw_gm (i := 710) (by decide +kernel) rfl
theorem mlL_109 : Cond.methodLink RL 109 yX6_foresee ∈ lw_g := lw_gm (i := 714) (by decide +kernel) rfl
theorem mlX6_154 : Cond.methodLink RX6 154 yX3_copyFrom ∈ lw_g := lw_gm (i := 719) (by decide +kernel) rfl
theorem mlX6_157 : Cond.methodLink RX6 157 yX3_step ∈ lw_g := lw_gm (i := 720) (by decide +kernel) rfl
theorem mlL_113 : Cond.methodLink RL 113 yX6_bestGate ∈ lw_g := lw_gm (i := 721) (by decide +kernel) rfl
theorem mlX6_160 : Cond.methodLink RX6 160 yX6_groundBy ∈ lw_g := lw_gm (i := 725) (by decide +kernel) rfl
theorem mlL_117 : Cond.methodLink RL 117 yX6_count ∈ lw_g := lw_gm (i := 729) (by decide +kernel) rfl
theorem mlX6_173 : Cond.methodLink RX6 173 yX3_countOf ∈ lw_g := lw_gm (i := 733) (by decide +kernel) rfl
theorem mlX3_302 : Cond.methodLink RX3 302 yX3_sacksInStage ∈ lw_g := lw_gm (i := 737) (by decide +kernel) rfl
theorem mlL_121 : Cond.methodLink RL 121 yX6_undo ∈ lw_g := lw_gm (i := 741) (by decide +kernel) rfl
theorem mlX6_176 : Cond.methodLink RX6 176 yX1_restore ∈ lw_g := lw_gm (i := 745) (by decide +kernel) rfl
theorem mlL_125 : Cond.methodLink RL 125 yX6_type ∈ lw_g := lw_gm (i := 750) (by decide +kernel) rfl
theorem mlX6_180 : Cond.methodLink RX6 180 yX4_append ∈ lw_g := lw_gm (i := 754) (by decide +kernel) rfl
theorem mlL_129 : Cond.methodLink RL 129 yX6_clearText ∈ lw_g := lw_gm (i := 759) (by decide +kernel) rfl
theorem mlX6_184 : Cond.methodLink RX6 184 yX4_empty ∈ lw_g := lw_gm (i := 763) (by decide +kernel) rfl
theorem mlL_133 : Cond.methodLink RL 133 yX6_fault ∈ lw_g := lw_gm (i := 767) (by decide +kernel) rfl
theorem mlX6_187 : Cond.methodLink RX6 187 yX4_doAll ∈ lw_g := lw_gm (i := 771) (by decide +kernel) rfl
theorem mlX4_36 : Cond.methodLink RX4 36 yX4_readOrder ∈ lw_g := lw_gm (i := 775) (by decide +kernel) rfl
theorem mlX4_44 : Cond.methodLink RX4 44 yX4_numbersAfter ∈ lw_g := lw_gm (i := 779) (by decide +kernel) rfl
theorem mlX4_48 : Cond.methodLink RX4 48 yX4_readSign ∈ lw_g := lw_gm (i := 782) (by decide +kernel) rfl
theorem mlX4_52 : Cond.methodLink RX4 52 yX4_readNumber ∈ lw_g := lw_gm (i := 786) (by decide +kernel) rfl
theorem mlX4_40 : Cond.methodLink RX4 40 yX4_doOrder ∈ lw_g := lw_gm (i := 791) (by decide +kernel) rfl
theorem mlX4_60 : Cond.methodLink RX4 60 yX4_isKnown ∈ lw_g := lw_gm (i := 795) (by decide +kernel) rfl
theorem mlX4_67 : Cond.methodLink RX4 67 yX3_hasFarmer ∈ lw_g := lw_gm (i := 799) (by decide +kernel) rfl
theorem mlX4_72 : Cond.methodLink RX4 72 yX3_hasKind ∈ lw_g := lw_gm (i := 800) (by decide +kernel) rfl
theorem mlX4_75 : Cond.methodLink RX4 75 yX3_hasSack ∈ lw_g := lw_gm (i := 801) (by decide +kernel) rfl
theorem mlX4_64 : Cond.methodLink RX4 64 yX4_answerOf ∈ lw_g := lw_gm (i := 802) (by decide +kernel) rfl
theorem mlX4_78 : Cond.methodLink RX4 78 yX3_addSack ∈ lw_g := lw_gm (i := 806) (by decide +kernel) rfl
theorem mlX4_82 : Cond.methodLink RX4 82 yX3_fetchSack ∈ lw_g := lw_gm (i := 807) (by decide +kernel) rfl
theorem mlX4_86 : Cond.methodLink RX4 86 yX3_putInPledge ∈ lw_g := lw_gm (i := 808) (by decide +kernel) rfl
theorem mlX4_90 : Cond.methodLink RX4 90 yX3_redeemPledge ∈ lw_g := lw_gm (i := 809) (by decide +kernel) rfl
theorem mlX4_93 : Cond.methodLink RX4 93 yX3_changeOpening ∈ lw_g := lw_gm (i := 810) (by decide +kernel) rfl
theorem mlL_137 : Cond.methodLink RL 137 yX6_play ∈ lw_g := lw_gm (i := 811) (by decide +kernel) rfl
theorem mlL_17 : Cond.methodLink RL 17 yX7_set ∈ lw_g := lw_gm (i := 852) (by decide +kernel) rfl
theorem mlX7_29 : Cond.methodLink RX7 29 yX7_in ∈ lw_g := lw_gm (i := 856) (by decide +kernel) rfl
theorem mlX7_118 : Cond.methodLink RX7 118 yX7_low ∈ lw_g := lw_gm (i := 859) (by decide +kernel) rfl
theorem mlX7_121 : Cond.methodLink RX7 121 yX7_high ∈ lw_g := lw_gm (i := 862) (by decide +kernel) rfl
theorem mlX7_124 : Cond.methodLink RX7 124 yX7_keeps ∈ lw_g := lw_gm (i := 866) (by decide +kernel) rfl
theorem mlX7_127 : Cond.methodLink RX7 127 yX7_acted ∈ lw_g := lw_gm (i := 870) (by decide +kernel) rfl
theorem mlL_21 : Cond.methodLink RL 21 yX7_leak ∈ lw_g := lw_gm (i := 874) (by decide +kernel) rfl
theorem mlL_26 : Cond.methodLink RL 26 yX7_lock ∈ lw_g := lw_gm (i := 878) (by decide +kernel) rfl
theorem mlL_30 : Cond.methodLink RL 30 yX7_gate ∈ lw_g := lw_gm (i := 882) (by decide +kernel) rfl
theorem mlX7_130 : Cond.methodLink RX7 130 yX7_gates ∈ lw_g := lw_gm (i := 886) (by decide +kernel) rfl
theorem mlL_35 : Cond.methodLink RL 35 yX7_kind ∈ lw_g := lw_gm (i := 890) (by decide +kernel) rfl
theorem mlL_40 : Cond.methodLink RL 40 yX7_farmer ∈ lw_g := lw_gm (i := 896) (by decide +kernel) rfl
theorem mlL_44 : Cond.methodLink RL 44 yX7_bring ∈ lw_g := lw_gm (i := 900) (by decide +kernel) rfl
theorem mlX7_134 : Cond.methodLink RX7 134 yX7_brings ∈ lw_g := lw_gm (i := 904) (by decide +kernel) rfl
theorem mlX7_94 : Cond.methodLink RX7 94 yX7_isFarmer ∈ lw_g := lw_gm (i := 908) (by decide +kernel) rfl
theorem mlX7_98 : Cond.methodLink RX7 98 yX7_isKind ∈ lw_g := lw_gm (i := 912) (by decide +kernel) rfl
theorem mlX7_64 : Cond.methodLink RX7 64 yX7_put ∈ lw_g := lw_gm (i := 916) (by decide +kernel) rfl
theorem mlL_48 : Cond.methodLink RL 48 yX7_withdraw ∈ lw_g := lw_gm (i := 920) (by decide +kernel) rfl
theorem mlX7_102 : Cond.methodLink RX7 102 yX7_isSack ∈ lw_g := lw_gm (i := 924) (by decide +kernel) rfl
theorem mlX7_38 : Cond.methodLink RX7 38 yX7_of ∈ lw_g := lw_gm (i := 928) (by decide +kernel) rfl
theorem mlL_52 : Cond.methodLink RL 52 yX7_fetch ∈ lw_g := lw_gm (i := 933) (by decide +kernel) rfl
theorem mlX7_138 : Cond.methodLink RX7 138 yX7_fetches ∈ lw_g := lw_gm (i := 937) (by decide +kernel) rfl
theorem mlX7_106 : Cond.methodLink RX7 106 yX7_flour ∈ lw_g := lw_gm (i := 941) (by decide +kernel) rfl
theorem mlX7_42 : Cond.methodLink RX7 42 yX7_toll ∈ lw_g := lw_gm (i := 945) (by decide +kernel) rfl
theorem mlX7_46 : Cond.methodLink RX7 46 yX7_dust ∈ lw_g := lw_gm (i := 949) (by decide +kernel) rfl
theorem mlL_56 : Cond.methodLink RL 56 yX7_kindOf ∈ lw_g := lw_gm (i := 953) (by decide +kernel) rfl
theorem mlX7_144 : Cond.methodLink RX7 144 yX7_many ∈ lw_g := lw_gm (i := 957) (by decide +kernel) rfl
theorem mlX7_148 : Cond.methodLink RX7 148 yX7_sum ∈ lw_g := lw_gm (i := 961) (by decide +kernel) rfl
theorem mlX7_141 : Cond.methodLink RX7 141 yX7_told ∈ lw_g := lw_gm (i := 965) (by decide +kernel) rfl
theorem mlX7_82 : Cond.methodLink RX7 82 yX7_grain ∈ lw_g := lw_gm (i := 969) (by decide +kernel) rfl
theorem mlL_60 : Cond.methodLink RL 60 yX7_farmerOf ∈ lw_g := lw_gm (i := 973) (by decide +kernel) rfl
theorem mlX7_49 : Cond.methodLink RX7 49 yX7_came ∈ lw_g := lw_gm (i := 977) (by decide +kernel) rfl
theorem mlL_64 : Cond.methodLink RL 64 yX7_sackOf ∈ lw_g := lw_gm (i := 981) (by decide +kernel) rfl
theorem mlX7_58 : Cond.methodLink RX7 58 yX7_placeOf ∈ lw_g := lw_gm (i := 985) (by decide +kernel) rfl
theorem mlX7_55 : Cond.methodLink RX7 55 yX7_weight ∈ lw_g := lw_gm (i := 989) (by decide +kernel) rfl
theorem mlX7_52 : Cond.methodLink RX7 52 yX7_hardness ∈ lw_g := lw_gm (i := 993) (by decide +kernel) rfl
theorem mlL_68 : Cond.methodLink RL 68 yX7_queueAt ∈ lw_g := lw_gm (i := 998) (by decide +kernel) rfl
theorem mlX7_75 : Cond.methodLink RX7 75 yX7_waitingAt ∈ lw_g := lw_gm (i := 1002) (by decide +kernel) rfl
theorem mlL_72 : Cond.methodLink RL 72 yX7_account ∈ lw_g := lw_gm (i := 1006) (by decide +kernel) rfl
theorem mlL_76 : Cond.methodLink RL 76 yX7_earn ∈ lw_g := lw_gm (i := 1010) (by decide +kernel) rfl
theorem mlL_80 : Cond.methodLink RL 80 yX7_pledge ∈ lw_g := lw_gm (i := 1016) (by decide +kernel) rfl
theorem mlX7_153 : Cond.methodLink RX7 153 yX7_pledges ∈ lw_g := lw_gm (i := 1020) (by decide +kernel) rfl
theorem mlX7_111 : Cond.methodLink RX7 111 yX7_product ∈ lw_g := lw_gm (i := 1024) (by decide +kernel) rfl
theorem mlL_84 : Cond.methodLink RL 84 yX7_owed ∈ lw_g := lw_gm (i := 1028) (by decide +kernel) rfl
theorem mlX7_115 : Cond.methodLink RX7 115 yX7_owes ∈ lw_g := lw_gm (i := 1032) (by decide +kernel) rfl
theorem mlL_88 : Cond.methodLink RL 88 yX7_redeem ∈ lw_g := lw_gm (i := 1036) (by decide +kernel) rfl
theorem mlX7_156 : Cond.methodLink RX7 156 yX7_redeems ∈ lw_g := lw_gm (i := 1040) (by decide +kernel) rfl
theorem mlL_92 : Cond.methodLink RL 92 yX7_pledgeAt ∈ lw_g := lw_gm (i := 1044) (by decide +kernel) rfl
theorem mlX7_159 : Cond.methodLink RX7 159 yX7_ahead ∈ lw_g := lw_gm (i := 1048) (by decide +kernel) rfl
theorem mlL_96 : Cond.methodLink RL 96 yX7_pass ∈ lw_g := lw_gm (i := 1052) (by decide +kernel) rfl
theorem mlX7_162 : Cond.methodLink RX7 162 yX7_goes ∈ lw_g := lw_gm (i := 1056) (by decide +kernel) rfl
theorem mlX7_85 : Cond.methodLink RX7 85 yX7_falls ∈ lw_g := lw_gm (i := 1060) (by decide +kernel) rfl
theorem mlX7_88 : Cond.methodLink RX7 88 yX7_flows ∈ lw_g := lw_gm (i := 1064) (by decide +kernel) rfl
theorem mlX7_68 : Cond.methodLink RX7 68 yX7_head ∈ lw_g := lw_gm (i := 1068) (by decide +kernel) rfl
theorem mlX7_61 : Cond.methodLink RX7 61 yX7_sea ∈ lw_g := lw_gm (i := 1072) (by decide +kernel) rfl
theorem mlX7_91 : Cond.methodLink RX7 91 yX7_grinds ∈ lw_g := lw_gm (i := 1076) (by decide +kernel) rfl
theorem mlX7_72 : Cond.methodLink RX7 72 yX7_sacksIn ∈ lw_g := lw_gm (i := 1080) (by decide +kernel) rfl
theorem mlX7_78 : Cond.methodLink RX7 78 yX7_comes ∈ lw_g := lw_gm (i := 1084) (by decide +kernel) rfl
theorem mlL_100 : Cond.methodLink RL 100 yX7_seaIn ∈ lw_g := lw_gm (i := 1088) (by decide +kernel) rfl
theorem mlL_104 : Cond.methodLink RL 104 yX7_nextHigh ∈ lw_g := lw_gm (i := 1092) (by decide +kernel) rfl
theorem mlL_108 : Cond.methodLink RL 108 yX7_pond ∈ lw_g := lw_gm (i := 1096) (by decide +kernel) rfl
theorem mlL_112 : Cond.methodLink RL 112 yX7_foresee ∈ lw_g := lw_gm (i := 1100) (by decide +kernel) rfl
theorem mlX7_165 : Cond.methodLink RX7 165 yX7_lays ∈ lw_g := lw_gm (i := 1104) (by decide +kernel) rfl
theorem mlX7_168 : Cond.methodLink RX7 168 yX7_restores ∈ lw_g := lw_gm (i := 1108) (by decide +kernel) rfl
theorem mlL_116 : Cond.methodLink RL 116 yX7_bestGate ∈ lw_g := lw_gm (i := 1112) (by decide +kernel) rfl
theorem mlL_120 : Cond.methodLink RL 120 yX7_count ∈ lw_g := lw_gm (i := 1116) (by decide +kernel) rfl
theorem mlL_124 : Cond.methodLink RL 124 yX7_undo ∈ lw_g := lw_gm (i := 1120) (by decide +kernel) rfl
theorem mlL_128 : Cond.methodLink RL 128 yX7_type ∈ lw_g := lw_gm (i := 1124) (by decide +kernel) rfl
theorem mlL_132 : Cond.methodLink RL 132 yX7_clearText ∈ lw_g := lw_gm (i := 1128) (by decide +kernel) rfl
theorem mlL_136 : Cond.methodLink RL 136 yX7_fault ∈ lw_g := lw_gm (i := 1132) (by decide +kernel) rfl
theorem mlX7_200 : Cond.methodLink RX7 200 yX7_faulty ∈ lw_g := lw_gm (i := 1136) (by decide +kernel) rfl
theorem mlX7_194 : Cond.methodLink RX7 194 yX7_doesNext ∈ lw_g := lw_gm (i := 1140) (by decide +kernel) rfl
theorem mlX7_184 : Cond.methodLink RX7 184 yX7_numbers ∈ lw_g := lw_gm (i := 1144) (by decide +kernel) rfl
theorem mlX7_188 : Cond.methodLink RX7 188 yX7_readsForm ∈ lw_g := lw_gm (i := 1147) (by decide +kernel) rfl
theorem mlX7_177 : Cond.methodLink RX7 177 yX7_passes ∈ lw_g := lw_gm (i := 1151) (by decide +kernel) rfl
theorem mlX7_181 : Cond.methodLink RX7 181 yX7_takes ∈ lw_g := lw_gm (i := 1155) (by decide +kernel) rfl
theorem mlX7_191 : Cond.methodLink RX7 191 yX7_does ∈ lw_g := lw_gm (i := 1159) (by decide +kernel) rfl
theorem mlL_140 : Cond.methodLink RL 140 yX7_play ∈ lw_g := lw_gm (i := 1163) (by decide +kernel) rfl
theorem cnX3_120 : Cond.constant RX3 120 (-1000001) ∈ lw_g := lw_gm (i := 381) (by decide +kernel) rfl
theorem cnX3_121 : Cond.constant RX3 121 (1000000) ∈ lw_g := lw_gm (i := 418) (by decide +kernel) rfl
theorem cnX3_122 : Cond.constant RX3 122 (-1000003) ∈ lw_g := lw_gm (i := 419) (by decide +kernel) rfl
theorem cnX3_155 : Cond.constant RX3 155 (-1000002) ∈ lw_g := lw_gm (i := 464) (by decide +kernel) rfl
theorem cnX6_79 : Cond.constant RX6 79 (-1000001) ∈ lw_g := lw_gm (i := 491) (by decide +kernel) rfl
theorem cnX3_189 : Cond.constant RX3 189 (-1000004) ∈ lw_g := lw_gm (i := 536) (by decide +kernel) rfl
theorem cnX3_210 : Cond.constant RX3 210 (1000000000) ∈ lw_g := lw_gm (i := 568) (by decide +kernel) rfl
theorem cnX3_211 : Cond.constantLong RX3 211 (2147483647) ∈ lw_g := lw_gm (i := 569) (by decide +kernel) rfl
theorem cnX3_233 : Cond.constantLong RX3 233 (100) ∈ lw_g := lw_gm (i := 582) (by decide +kernel) rfl
theorem cnX3_235 : Cond.constant RX3 235 (2147483647) ∈ lw_g := lw_gm (i := 596) (by decide +kernel) rfl
theorem cnX3_236 : Cond.constantLong RX3 236 (1000) ∈ lw_g := lw_gm (i := 597) (by decide +kernel) rfl
theorem cnX6_124 : Cond.constant RX6 124 (-1000004) ∈ lw_g := lw_gm (i := 598) (by decide +kernel) rfl
theorem cnX6_153 : Cond.constant RX6 153 (-1000002) ∈ lw_g := lw_gm (i := 718) (by decide +kernel) rfl
theorem cnX1_29 : Cond.constant RX1 29 (-1000002) ∈ lw_g := lw_gm (i := 749) (by decide +kernel) rfl
theorem cnX4_23 : Cond.constant RX4 23 (-1000003) ∈ lw_g := lw_gm (i := 758) (by decide +kernel) rfl
theorem cnX7_33 : Cond.constant RX7 33 (-1000001) ∈ lw_g := lw_gm (i := 865) (by decide +kernel) rfl
theorem cnX7_133 : Cond.constant RX7 133 (1000000) ∈ lw_g := lw_gm (i := 894) (by decide +kernel) rfl
theorem cnX7_101 : Cond.constant RX7 101 (-1000003) ∈ lw_g := lw_gm (i := 895) (by decide +kernel) rfl
theorem cnX7_105 : Cond.constant RX7 105 (-1000002) ∈ lw_g := lw_gm (i := 932) (by decide +kernel) rfl
theorem cnX7_151 : Cond.constant RX7 151 (-1000004) ∈ lw_g := lw_gm (i := 997) (by decide +kernel) rfl
theorem cnX7_152 : Cond.constant RX7 152 (1000000000) ∈ lw_g := lw_gm (i := 1014) (by decide +kernel) rfl
theorem cnX7_114 : Cond.constant RX7 114 (2147483647) ∈ lw_g := lw_gm (i := 1015) (by decide +kernel) rfl
theorem cnX7_109 : Cond.constantLong RX7 109 (2147483647) ∈ lw_g := lw_gm (i := 1027) (by decide +kernel) rfl
theorem kw_min : Cond.static Lib.Math.min.name ∈ lw_g ∧ Cond.initialized "java/lang/Math" ∈ lw_g ∧ Cond.code Lib.Math.min.name Lib.Math.min.code 2 (some .int) ∈ lw_g := ⟨lw_gm (i := 664) (by decide +kernel) rfl, lw_gm (i := 75) (by decide +kernel) rfl, lw_gm (i := 665) (by decide +kernel) rfl⟩
theorem mlX3_280 : Cond.methodLink RX3 280 Lib.Math.min.name ∈ lw_g := lw_gm (i := 663) (by decide +kernel) rfl
theorem kw_max : Cond.static Lib.Math.max.name ∈ lw_g ∧ Cond.initialized "java/lang/Math" ∈ lw_g ∧ Cond.code Lib.Math.max.name Lib.Math.max.code 2 (some .int) ∈ lw_g := ⟨lw_gm (i := 687) (by decide +kernel) rfl, lw_gm (i := 75) (by decide +kernel) rfl, lw_gm (i := 688) (by decide +kernel) rfl⟩
theorem mlX3_296 : Cond.methodLink RX3 296 Lib.Math.max.name ∈ lw_g := lw_gm (i := 686) (by decide +kernel) rfl
theorem kw_abs : Cond.static Lib.Math.abs.name ∈ lw_g ∧ Cond.initialized "java/lang/Math" ∈ lw_g ∧ Cond.code Lib.Math.abs.name Lib.Math.abs.code 1 (some .int) ∈ lw_g := ⟨lw_gm (i := 653) (by decide +kernel) rfl, lw_gm (i := 75) (by decide +kernel) rfl, lw_gm (i := 654) (by decide +kernel) rfl⟩
theorem mlX3_272 : Cond.methodLink RX3 272 Lib.Math.abs.name ∈ lw_g := lw_gm (i := 652) (by decide +kernel) rfl
