/-! facts of the tables, printed by gen.py -/
theorem kin_0 : ∀ w ∈ u_ws RX0 TX0 12, w ∈ gtbl := fun w hw => List.mem_filter.mpr ⟨(by decide +kernel : ∀ w ∈ u_ws RX0 TX0 12, w ∈ lw_tbl) w hw, List.all_eq_true.mp (by decide +kernel : (u_ws RX0 TX0 12).all goodWord = true) w hw⟩
theorem kl_0 : KLS (RX0, TX0, 12) := ⟨kin_0, ⟨tyX0, tyX0_ok⟩, nmX0⟩
abbrev df_0 : List Value := [.int 0, .int 0, .int 0, .int 0, .int 0, .int 0, .int 0, .null, .null, .null, .null, .null]
theorem fre_0 : fresh 0 df_0 := ⟨(RX0, TX0, 12), tyX0, rfl, by omega, rfl, kin_0, tyX0_ok, fun E j hj => by
  have hj : j < 12 := hj
  rcases (show j = 0 ∨ j = 1 ∨ j = 2 ∨ j = 3 ∨ j = 4 ∨ j = 5 ∨ j = 6 ∨ j = 7 ∨ j = 8 ∨ j = 9 ∨ j = 10 ∨ j = 11 by omega) with rfl | rfl | rfl | rfl | rfl | rfl | rfl | rfl | rfl | rfl | rfl | rfl <;> rfl, (in_g 68 (by decide +kernel) rfl), (in_g 42 (by decide +kernel) rfl)⟩
theorem kin_1 : ∀ w ∈ u_ws RX1 TX1 5, w ∈ gtbl := fun w hw => List.mem_filter.mpr ⟨(by decide +kernel : ∀ w ∈ u_ws RX1 TX1 5, w ∈ lw_tbl) w hw, List.all_eq_true.mp (by decide +kernel : (u_ws RX1 TX1 5).all goodWord = true) w hw⟩
theorem kl_1 : KLS (RX1, TX1, 5) := ⟨kin_1, ⟨tyX1, tyX1_ok⟩, nmX1⟩
abbrev df_1 : List Value := [.int 0, .null, .null, .null, .null]
theorem fre_1 : fresh 1 df_1 := ⟨(RX1, TX1, 5), tyX1, rfl, by omega, rfl, kin_1, tyX1_ok, fun E j hj => by
  have hj : j < 5 := hj
  rcases (show j = 0 ∨ j = 1 ∨ j = 2 ∨ j = 3 ∨ j = 4 by omega) with rfl | rfl | rfl | rfl | rfl <;> rfl, (in_g 146 (by decide +kernel) rfl), (in_g 47 (by decide +kernel) rfl)⟩
theorem kin_2 : ∀ w ∈ u_ws RX2 TX2 3, w ∈ gtbl := fun w hw => List.mem_filter.mpr ⟨(by decide +kernel : ∀ w ∈ u_ws RX2 TX2 3, w ∈ lw_tbl) w hw, List.all_eq_true.mp (by decide +kernel : (u_ws RX2 TX2 3).all goodWord = true) w hw⟩
theorem kl_2 : KLS (RX2, TX2, 3) := ⟨kin_2, ⟨tyX2, tyX2_ok⟩, nmX2⟩
abbrev df_2 : List Value := [.int 0, .null, .null]
theorem fre_2 : fresh 2 df_2 := ⟨(RX2, TX2, 3), tyX2, rfl, by omega, rfl, kin_2, tyX2_ok, fun E j hj => by
  have hj : j < 3 := hj
  rcases (show j = 0 ∨ j = 1 ∨ j = 2 by omega) with rfl | rfl | rfl <;> rfl, (in_g 122 (by decide +kernel) rfl), (in_g 46 (by decide +kernel) rfl)⟩
theorem kin_3 : ∀ w ∈ u_ws RX3 TX3 3, w ∈ gtbl := fun w hw => List.mem_filter.mpr ⟨(by decide +kernel : ∀ w ∈ u_ws RX3 TX3 3, w ∈ lw_tbl) w hw, List.all_eq_true.mp (by decide +kernel : (u_ws RX3 TX3 3).all goodWord = true) w hw⟩
theorem kl_3 : KLS (RX3, TX3, 3) := ⟨kin_3, ⟨tyX3, tyX3_ok⟩, nmX3⟩
abbrev df_3 : List Value := [.int 0, .int 0, .null]
theorem fre_3 : fresh 3 df_3 := ⟨(RX3, TX3, 3), tyX3, rfl, by omega, rfl, kin_3, tyX3_ok, fun E j hj => by
  have hj : j < 3 := hj
  rcases (show j = 0 ∨ j = 1 ∨ j = 2 by omega) with rfl | rfl | rfl <;> rfl, (in_g 229 (by decide +kernel) rfl), (in_g 48 (by decide +kernel) rfl)⟩
theorem kin_4 : ∀ w ∈ u_ws RX4 TX4 1, w ∈ gtbl := fun w hw => List.mem_filter.mpr ⟨(by decide +kernel : ∀ w ∈ u_ws RX4 TX4 1, w ∈ lw_tbl) w hw, List.all_eq_true.mp (by decide +kernel : (u_ws RX4 TX4 1).all goodWord = true) w hw⟩
theorem kl_4 : KLS (RX4, TX4, 1) := ⟨kin_4, ⟨tyX4, tyX4_ok⟩, nmX4⟩
abbrev df_4 : List Value := [.null]
theorem fre_4 : fresh 4 df_4 := ⟨(RX4, TX4, 1), tyX4, rfl, by omega, rfl, kin_4, tyX4_ok, fun E j hj => by
  have hj : j < 1 := hj
  rcases (show j = 0 by omega) with rfl <;> rfl, (in_g 74 (by decide +kernel) rfl), (in_g 43 (by decide +kernel) rfl)⟩
theorem kin_5 : ∀ w ∈ u_ws RX5 TX5 1, w ∈ gtbl := fun w hw => List.mem_filter.mpr ⟨(by decide +kernel : ∀ w ∈ u_ws RX5 TX5 1, w ∈ lw_tbl) w hw, List.all_eq_true.mp (by decide +kernel : (u_ws RX5 TX5 1).all goodWord = true) w hw⟩
theorem kl_5 : KLS (RX5, TX5, 1) := ⟨kin_5, ⟨tyX5, tyX5_ok⟩, nmX5⟩
abbrev df_5 : List Value := [.null]
theorem fre_5 : fresh 5 df_5 := ⟨(RX5, TX5, 1), tyX5, rfl, by omega, rfl, kin_5, tyX5_ok, fun E j hj => by
  have hj : j < 1 := hj
  rcases (show j = 0 by omega) with rfl <;> rfl, (in_g 235 (by decide +kernel) rfl), (in_g 49 (by decide +kernel) rfl)⟩
theorem kin_6 : ∀ w ∈ u_ws RX6 TX6 5, w ∈ gtbl := fun w hw => List.mem_filter.mpr ⟨(by decide +kernel : ∀ w ∈ u_ws RX6 TX6 5, w ∈ lw_tbl) w hw, List.all_eq_true.mp (by decide +kernel : (u_ws RX6 TX6 5).all goodWord = true) w hw⟩
theorem kl_6 : KLS (RX6, TX6, 5) := ⟨kin_6, ⟨tyX6, tyX6_ok⟩, nmX6⟩
abbrev df_6 : List Value := [.int 0, .null, .null, .null, .null]
theorem fre_6 : fresh 6 df_6 := ⟨(RX6, TX6, 5), tyX6, rfl, by omega, rfl, kin_6, tyX6_ok, fun E j hj => by
  have hj : j < 5 := hj
  rcases (show j = 0 ∨ j = 1 ∨ j = 2 ∨ j = 3 ∨ j = 4 by omega) with rfl | rfl | rfl | rfl | rfl <;> rfl, (in_g 88 (by decide +kernel) rfl), (in_g 45 (by decide +kernel) rfl)⟩
theorem kin_7 : ∀ w ∈ u_ws RX7 TX7 7, w ∈ gtbl := fun w hw => List.mem_filter.mpr ⟨(by decide +kernel : ∀ w ∈ u_ws RX7 TX7 7, w ∈ lw_tbl) w hw, List.all_eq_true.mp (by decide +kernel : (u_ws RX7 TX7 7).all goodWord = true) w hw⟩
theorem kl_7 : KLS (RX7, TX7, 7) := ⟨kin_7, ⟨tyX7, tyX7_ok⟩, nmX7⟩
abbrev df_7 : List Value := [.int 0, .null, .int 0, .int 0, .int 0, .int 0, .int 0]
theorem fre_7 : fresh 7 df_7 := ⟨(RX7, TX7, 7), tyX7, rfl, by omega, rfl, kin_7, tyX7_ok, fun E j hj => by
  have hj : j < 7 := hj
  rcases (show j = 0 ∨ j = 1 ∨ j = 2 ∨ j = 3 ∨ j = 4 ∨ j = 5 ∨ j = 6 by omega) with rfl | rfl | rfl | rfl | rfl | rfl | rfl <;> rfl, (in_g 260 (by decide +kernel) rfl), (in_g 50 (by decide +kernel) rfl)⟩
theorem kin_8 : ∀ w ∈ u_ws RX8 TX8 6, w ∈ gtbl := fun w hw => List.mem_filter.mpr ⟨(by decide +kernel : ∀ w ∈ u_ws RX8 TX8 6, w ∈ lw_tbl) w hw, List.all_eq_true.mp (by decide +kernel : (u_ws RX8 TX8 6).all goodWord = true) w hw⟩
theorem kl_8 : KLS (RX8, TX8, 6) := ⟨kin_8, ⟨tyX8, tyX8_ok⟩, nmX8⟩
abbrev df_8 : List Value := [.null, .null, .null, .null, .null, .null]
theorem fre_8 : fresh 8 df_8 := ⟨(RX8, TX8, 6), tyX8, rfl, by omega, rfl, kin_8, tyX8_ok, fun E j hj => by
  have hj : j < 6 := hj
  rcases (show j = 0 ∨ j = 1 ∨ j = 2 ∨ j = 3 ∨ j = 4 ∨ j = 5 by omega) with rfl | rfl | rfl | rfl | rfl | rfl <;> rfl, (in_g 60 (by decide +kernel) rfl), (in_g 41 (by decide +kernel) rfl)⟩
theorem kin_9 : ∀ w ∈ u_ws RX9 TX9 13, w ∈ gtbl := fun w hw => List.mem_filter.mpr ⟨(by decide +kernel : ∀ w ∈ u_ws RX9 TX9 13, w ∈ lw_tbl) w hw, List.all_eq_true.mp (by decide +kernel : (u_ws RX9 TX9 13).all goodWord = true) w hw⟩
theorem kl_9 : KLS (RX9, TX9, 13) := ⟨kin_9, ⟨tyX9, tyX9_ok⟩, nmX9⟩
abbrev df_9 : List Value := [.int 0, .null, .int 0, .int 0, .int 0, .int 0, .null, .null, .null, .null, .int 0, .null, .null]
theorem fre_9 : fresh 9 df_9 := ⟨(RX9, TX9, 13), tyX9, rfl, by omega, rfl, kin_9, tyX9_ok, fun E j hj => by
  have hj : j < 13 := hj
  rcases (show j = 0 ∨ j = 1 ∨ j = 2 ∨ j = 3 ∨ j = 4 ∨ j = 5 ∨ j = 6 ∨ j = 7 ∨ j = 8 ∨ j = 9 ∨ j = 10 ∨ j = 11 ∨ j = 12 by omega) with rfl | rfl | rfl | rfl | rfl | rfl | rfl | rfl | rfl | rfl | rfl | rfl | rfl <;> rfl, (in_g 903 (by decide +kernel) rfl), (in_g 51 (by decide +kernel) rfl)⟩
theorem fl_X4_13 : FL RX4 13 4 0 (RX4, TX4, 1) := ⟨rfl, by omega, by show 0 < 1; omega, kl_4, Or.inl (in_g 82 (by decide +kernel) rfl)⟩
theorem fl_X6_29 : FL RX6 29 6 0 (RX6, TX6, 5) := ⟨rfl, by omega, by show 0 < 5; omega, kl_6, Or.inl (in_g 95 (by decide +kernel) rfl)⟩
theorem fl_X0_66 : FL RX0 66 6 0 (RX6, TX6, 5) := ⟨rfl, by omega, by show 0 < 5; omega, kl_6, Or.inr ⟨"TentCamp", List.mem_of_getElem? (i := 96) (by decide +kernel)⟩⟩
theorem fl_X8_109 : FL RX8 109 6 0 (RX6, TX6, 5) := ⟨rfl, by omega, by show 0 < 5; omega, kl_6, Or.inr ⟨"TentCamp", List.mem_of_getElem? (i := 97) (by decide +kernel)⟩⟩
theorem fl_X6_14 : FL RX6 14 6 1 (RX6, TX6, 5) := ⟨rfl, by omega, by show 1 < 5; omega, kl_6, Or.inl (in_g 98 (by decide +kernel) rfl)⟩
theorem fl_X8_170 : FL RX8 170 6 1 (RX6, TX6, 5) := ⟨rfl, by omega, by show 1 < 5; omega, kl_6, Or.inr ⟨"TentCamp", List.mem_of_getElem? (i := 99) (by decide +kernel)⟩⟩
theorem fl_X0_136 : FL RX0 136 6 1 (RX6, TX6, 5) := ⟨rfl, by omega, by show 1 < 5; omega, kl_6, Or.inr ⟨"TentCamp", List.mem_of_getElem? (i := 100) (by decide +kernel)⟩⟩
theorem fl_X6_20 : FL RX6 20 6 2 (RX6, TX6, 5) := ⟨rfl, by omega, by show 2 < 5; omega, kl_6, Or.inl (in_g 101 (by decide +kernel) rfl)⟩
theorem fl_X8_176 : FL RX8 176 6 2 (RX6, TX6, 5) := ⟨rfl, by omega, by show 2 < 5; omega, kl_6, Or.inr ⟨"TentCamp", List.mem_of_getElem? (i := 102) (by decide +kernel)⟩⟩
theorem fl_X0_139 : FL RX0 139 6 2 (RX6, TX6, 5) := ⟨rfl, by omega, by show 2 < 5; omega, kl_6, Or.inr ⟨"TentCamp", List.mem_of_getElem? (i := 103) (by decide +kernel)⟩⟩
theorem fl_X6_23 : FL RX6 23 6 3 (RX6, TX6, 5) := ⟨rfl, by omega, by show 3 < 5; omega, kl_6, Or.inl (in_g 104 (by decide +kernel) rfl)⟩
theorem fl_X8_178 : FL RX8 178 6 3 (RX6, TX6, 5) := ⟨rfl, by omega, by show 3 < 5; omega, kl_6, Or.inr ⟨"TentCamp", List.mem_of_getElem? (i := 105) (by decide +kernel)⟩⟩
theorem fl_X0_142 : FL RX0 142 6 3 (RX6, TX6, 5) := ⟨rfl, by omega, by show 3 < 5; omega, kl_6, Or.inr ⟨"TentCamp", List.mem_of_getElem? (i := 106) (by decide +kernel)⟩⟩
theorem fl_X6_26 : FL RX6 26 6 4 (RX6, TX6, 5) := ⟨rfl, by omega, by show 4 < 5; omega, kl_6, Or.inl (in_g 107 (by decide +kernel) rfl)⟩
theorem fl_X8_181 : FL RX8 181 6 4 (RX6, TX6, 5) := ⟨rfl, by omega, by show 4 < 5; omega, kl_6, Or.inr ⟨"TentCamp", List.mem_of_getElem? (i := 108) (by decide +kernel)⟩⟩
theorem fl_X0_143 : FL RX0 143 6 4 (RX6, TX6, 5) := ⟨rfl, by omega, by show 4 < 5; omega, kl_6, Or.inr ⟨"TentCamp", List.mem_of_getElem? (i := 109) (by decide +kernel)⟩⟩
theorem fl_X2_23 : FL RX2 23 2 0 (RX2, TX2, 3) := ⟨rfl, by omega, by show 0 < 3; omega, kl_2, Or.inl (in_g 129 (by decide +kernel) rfl)⟩
theorem fl_X0_69 : FL RX0 69 2 0 (RX2, TX2, 3) := ⟨rfl, by omega, by show 0 < 3; omega, kl_2, Or.inr ⟨"TentCamp", List.mem_of_getElem? (i := 130) (by decide +kernel)⟩⟩
theorem fl_X8_128 : FL RX8 128 2 0 (RX2, TX2, 3) := ⟨rfl, by omega, by show 0 < 3; omega, kl_2, Or.inr ⟨"TentCamp", List.mem_of_getElem? (i := 131) (by decide +kernel)⟩⟩
theorem fl_X2_14 : FL RX2 14 2 1 (RX2, TX2, 3) := ⟨rfl, by omega, by show 1 < 3; omega, kl_2, Or.inl (in_g 132 (by decide +kernel) rfl)⟩
theorem fl_X8_222 : FL RX8 222 2 1 (RX2, TX2, 3) := ⟨rfl, by omega, by show 1 < 3; omega, kl_2, Or.inr ⟨"TentCamp", List.mem_of_getElem? (i := 133) (by decide +kernel)⟩⟩
theorem fl_X0_166 : FL RX0 166 2 1 (RX2, TX2, 3) := ⟨rfl, by omega, by show 1 < 3; omega, kl_2, Or.inr ⟨"TentCamp", List.mem_of_getElem? (i := 134) (by decide +kernel)⟩⟩
theorem fl_X2_20 : FL RX2 20 2 2 (RX2, TX2, 3) := ⟨rfl, by omega, by show 2 < 3; omega, kl_2, Or.inl (in_g 135 (by decide +kernel) rfl)⟩
theorem fl_X8_224 : FL RX8 224 2 2 (RX2, TX2, 3) := ⟨rfl, by omega, by show 2 < 3; omega, kl_2, Or.inr ⟨"TentCamp", List.mem_of_getElem? (i := 136) (by decide +kernel)⟩⟩
theorem fl_X0_168 : FL RX0 168 2 2 (RX2, TX2, 3) := ⟨rfl, by omega, by show 2 < 3; omega, kl_2, Or.inr ⟨"TentCamp", List.mem_of_getElem? (i := 137) (by decide +kernel)⟩⟩
theorem fl_X1_29 : FL RX1 29 1 0 (RX1, TX1, 5) := ⟨rfl, by omega, by show 0 < 5; omega, kl_1, Or.inl (in_g 153 (by decide +kernel) rfl)⟩
theorem fl_X0_70 : FL RX0 70 1 0 (RX1, TX1, 5) := ⟨rfl, by omega, by show 0 < 5; omega, kl_1, Or.inr ⟨"TentCamp", List.mem_of_getElem? (i := 154) (by decide +kernel)⟩⟩
theorem fl_X8_118 : FL RX8 118 1 0 (RX1, TX1, 5) := ⟨rfl, by omega, by show 0 < 5; omega, kl_1, Or.inr ⟨"TentCamp", List.mem_of_getElem? (i := 155) (by decide +kernel)⟩⟩
theorem fl_X1_14 : FL RX1 14 1 1 (RX1, TX1, 5) := ⟨rfl, by omega, by show 1 < 5; omega, kl_1, Or.inl (in_g 156 (by decide +kernel) rfl)⟩
theorem fl_X8_192 : FL RX8 192 1 1 (RX1, TX1, 5) := ⟨rfl, by omega, by show 1 < 5; omega, kl_1, Or.inr ⟨"TentCamp", List.mem_of_getElem? (i := 157) (by decide +kernel)⟩⟩
theorem fl_X0_119 : FL RX0 119 1 1 (RX1, TX1, 5) := ⟨rfl, by omega, by show 1 < 5; omega, kl_1, Or.inr ⟨"TentCamp", List.mem_of_getElem? (i := 158) (by decide +kernel)⟩⟩
theorem fl_X1_20 : FL RX1 20 1 2 (RX1, TX1, 5) := ⟨rfl, by omega, by show 2 < 5; omega, kl_1, Or.inl (in_g 159 (by decide +kernel) rfl)⟩
theorem fl_X0_103 : FL RX0 103 1 2 (RX1, TX1, 5) := ⟨rfl, by omega, by show 2 < 5; omega, kl_1, Or.inr ⟨"TentCamp", List.mem_of_getElem? (i := 160) (by decide +kernel)⟩⟩
theorem fl_X8_195 : FL RX8 195 1 2 (RX1, TX1, 5) := ⟨rfl, by omega, by show 2 < 5; omega, kl_1, Or.inr ⟨"TentCamp", List.mem_of_getElem? (i := 161) (by decide +kernel)⟩⟩
theorem fl_X1_23 : FL RX1 23 1 3 (RX1, TX1, 5) := ⟨rfl, by omega, by show 3 < 5; omega, kl_1, Or.inl (in_g 162 (by decide +kernel) rfl)⟩
theorem fl_X8_196 : FL RX8 196 1 3 (RX1, TX1, 5) := ⟨rfl, by omega, by show 3 < 5; omega, kl_1, Or.inr ⟨"TentCamp", List.mem_of_getElem? (i := 163) (by decide +kernel)⟩⟩
theorem fl_X0_199 : FL RX0 199 1 3 (RX1, TX1, 5) := ⟨rfl, by omega, by show 3 < 5; omega, kl_1, Or.inr ⟨"TentCamp", List.mem_of_getElem? (i := 164) (by decide +kernel)⟩⟩
theorem fl_X1_26 : FL RX1 26 1 4 (RX1, TX1, 5) := ⟨rfl, by omega, by show 4 < 5; omega, kl_1, Or.inl (in_g 165 (by decide +kernel) rfl)⟩
theorem fl_X0_88 : FL RX0 88 1 4 (RX1, TX1, 5) := ⟨rfl, by omega, by show 4 < 5; omega, kl_1, Or.inr ⟨"TentCamp", List.mem_of_getElem? (i := 166) (by decide +kernel)⟩⟩
theorem fl_X8_202 : FL RX8 202 1 4 (RX1, TX1, 5) := ⟨rfl, by omega, by show 4 < 5; omega, kl_1, Or.inr ⟨"TentCamp", List.mem_of_getElem? (i := 167) (by decide +kernel)⟩⟩
theorem fl_X0_9 : FL RX0 9 0 0 (RX0, TX0, 12) := ⟨rfl, by omega, by show 0 < 12; omega, kl_0, Or.inl (in_g 179 (by decide +kernel) rfl)⟩
theorem fl_X8_150 : FL RX8 150 0 0 (RX0, TX0, 12) := ⟨rfl, by omega, by show 0 < 12; omega, kl_0, Or.inr ⟨"TentCamp", List.mem_of_getElem? (i := 180) (by decide +kernel)⟩⟩
theorem fl_X0_15 : FL RX0 15 0 1 (RX0, TX0, 12) := ⟨rfl, by omega, by show 1 < 12; omega, kl_0, Or.inl (in_g 181 (by decide +kernel) rfl)⟩
theorem fl_X8_153 : FL RX8 153 0 1 (RX0, TX0, 12) := ⟨rfl, by omega, by show 1 < 12; omega, kl_0, Or.inr ⟨"TentCamp", List.mem_of_getElem? (i := 182) (by decide +kernel)⟩⟩
theorem fl_X0_18 : FL RX0 18 0 2 (RX0, TX0, 12) := ⟨rfl, by omega, by show 2 < 12; omega, kl_0, Or.inl (in_g 183 (by decide +kernel) rfl)⟩
theorem fl_X8_156 : FL RX8 156 0 2 (RX0, TX0, 12) := ⟨rfl, by omega, by show 2 < 12; omega, kl_0, Or.inr ⟨"TentCamp", List.mem_of_getElem? (i := 184) (by decide +kernel)⟩⟩
theorem fl_X0_54 : FL RX0 54 0 3 (RX0, TX0, 12) := ⟨rfl, by omega, by show 3 < 12; omega, kl_0, Or.inl (in_g 185 (by decide +kernel) rfl)⟩
theorem fl_X8_147 : FL RX8 147 0 3 (RX0, TX0, 12) := ⟨rfl, by omega, by show 3 < 12; omega, kl_0, Or.inr ⟨"TentCamp", List.mem_of_getElem? (i := 186) (by decide +kernel)⟩⟩
theorem fl_X0_57 : FL RX0 57 0 4 (RX0, TX0, 12) := ⟨rfl, by omega, by show 4 < 12; omega, kl_0, Or.inl (in_g 187 (by decide +kernel) rfl)⟩
theorem fl_X8_141 : FL RX8 141 0 4 (RX0, TX0, 12) := ⟨rfl, by omega, by show 4 < 12; omega, kl_0, Or.inr ⟨"TentCamp", List.mem_of_getElem? (i := 188) (by decide +kernel)⟩⟩
theorem fl_X0_60 : FL RX0 60 0 5 (RX0, TX0, 12) := ⟨rfl, by omega, by show 5 < 12; omega, kl_0, Or.inl (in_g 189 (by decide +kernel) rfl)⟩
theorem fl_X8_144 : FL RX8 144 0 5 (RX0, TX0, 12) := ⟨rfl, by omega, by show 5 < 12; omega, kl_0, Or.inr ⟨"TentCamp", List.mem_of_getElem? (i := 190) (by decide +kernel)⟩⟩
theorem fl_X0_63 : FL RX0 63 0 6 (RX0, TX0, 12) := ⟨rfl, by omega, by show 6 < 12; omega, kl_0, Or.inl (in_g 191 (by decide +kernel) rfl)⟩
theorem fl_X8_280 : FL RX8 280 0 6 (RX0, TX0, 12) := ⟨rfl, by omega, by show 6 < 12; omega, kl_0, Or.inr ⟨"TentCamp", List.mem_of_getElem? (i := 192) (by decide +kernel)⟩⟩
theorem fl_X0_26 : FL RX0 26 0 7 (RX0, TX0, 12) := ⟨rfl, by omega, by show 7 < 12; omega, kl_0, Or.inl (in_g 193 (by decide +kernel) rfl)⟩
theorem fl_X8_205 : FL RX8 205 0 7 (RX0, TX0, 12) := ⟨rfl, by omega, by show 7 < 12; omega, kl_0, Or.inr ⟨"TentCamp", List.mem_of_getElem? (i := 194) (by decide +kernel)⟩⟩
theorem fl_X0_33 : FL RX0 33 0 8 (RX0, TX0, 12) := ⟨rfl, by omega, by show 8 < 12; omega, kl_0, Or.inl (in_g 195 (by decide +kernel) rfl)⟩
theorem fl_X8_105 : FL RX8 105 0 8 (RX0, TX0, 12) := ⟨rfl, by omega, by show 8 < 12; omega, kl_0, Or.inr ⟨"TentCamp", List.mem_of_getElem? (i := 196) (by decide +kernel)⟩⟩
theorem fl_X0_40 : FL RX0 40 0 9 (RX0, TX0, 12) := ⟨rfl, by omega, by show 9 < 12; omega, kl_0, Or.inl (in_g 197 (by decide +kernel) rfl)⟩
theorem fl_X8_124 : FL RX8 124 0 9 (RX0, TX0, 12) := ⟨rfl, by omega, by show 9 < 12; omega, kl_0, Or.inr ⟨"TentCamp", List.mem_of_getElem? (i := 198) (by decide +kernel)⟩⟩
theorem fl_X0_47 : FL RX0 47 0 10 (RX0, TX0, 12) := ⟨rfl, by omega, by show 10 < 12; omega, kl_0, Or.inl (in_g 199 (by decide +kernel) rfl)⟩
theorem fl_X8_114 : FL RX8 114 0 10 (RX0, TX0, 12) := ⟨rfl, by omega, by show 10 < 12; omega, kl_0, Or.inr ⟨"TentCamp", List.mem_of_getElem? (i := 200) (by decide +kernel)⟩⟩
theorem fl_X0_51 : FL RX0 51 0 11 (RX0, TX0, 12) := ⟨rfl, by omega, by show 11 < 12; omega, kl_0, Or.inl (in_g 201 (by decide +kernel) rfl)⟩
theorem fl_X8_121 : FL RX8 121 0 11 (RX0, TX0, 12) := ⟨rfl, by omega, by show 11 < 12; omega, kl_0, Or.inr ⟨"TentCamp", List.mem_of_getElem? (i := 202) (by decide +kernel)⟩⟩
theorem fl_X5_15 : FL RX5 15 5 0 (RX5, TX5, 1) := ⟨rfl, by omega, by show 0 < 1; omega, kl_5, Or.inl (in_g 244 (by decide +kernel) rfl)⟩
theorem fl_X3_20 : FL RX3 20 3 0 (RX3, TX3, 3) := ⟨rfl, by omega, by show 0 < 3; omega, kl_3, Or.inl (in_g 248 (by decide +kernel) rfl)⟩
theorem fl_X8_271 : FL RX8 271 3 0 (RX3, TX3, 3) := ⟨rfl, by omega, by show 0 < 3; omega, kl_3, Or.inr ⟨"TentCamp", List.mem_of_getElem? (i := 249) (by decide +kernel)⟩⟩
theorem fl_X3_24 : FL RX3 24 3 1 (RX3, TX3, 3) := ⟨rfl, by omega, by show 1 < 3; omega, kl_3, Or.inl (in_g 250 (by decide +kernel) rfl)⟩
theorem fl_X3_14 : FL RX3 14 3 2 (RX3, TX3, 3) := ⟨rfl, by omega, by show 2 < 3; omega, kl_3, Or.inl (in_g 251 (by decide +kernel) rfl)⟩
theorem fl_X7_20 : FL RX7 20 7 0 (RX7, TX7, 7) := ⟨rfl, by omega, by show 0 < 7; omega, kl_7, Or.inl (in_g 267 (by decide +kernel) rfl)⟩
theorem fl_X8_56 : FL RX8 56 7 0 (RX7, TX7, 7) := ⟨rfl, by omega, by show 0 < 7; omega, kl_7, Or.inr ⟨"TentCamp", List.mem_of_getElem? (i := 268) (by decide +kernel)⟩⟩
theorem fl_X7_14 : FL RX7 14 7 1 (RX7, TX7, 7) := ⟨rfl, by omega, by show 1 < 7; omega, kl_7, Or.inl (in_g 269 (by decide +kernel) rfl)⟩
theorem fl_X7_42 : FL RX7 42 7 2 (RX7, TX7, 7) := ⟨rfl, by omega, by show 2 < 7; omega, kl_7, Or.inl (in_g 270 (by decide +kernel) rfl)⟩
theorem fl_X7_38 : FL RX7 38 7 3 (RX7, TX7, 7) := ⟨rfl, by omega, by show 3 < 7; omega, kl_7, Or.inl (in_g 271 (by decide +kernel) rfl)⟩
theorem fl_X7_49 : FL RX7 49 7 4 (RX7, TX7, 7) := ⟨rfl, by omega, by show 4 < 7; omega, kl_7, Or.inl (in_g 272 (by decide +kernel) rfl)⟩
theorem fl_X8_333 : FL RX8 333 7 4 (RX7, TX7, 7) := ⟨rfl, by omega, by show 4 < 7; omega, kl_7, Or.inr ⟨"TentCamp", List.mem_of_getElem? (i := 273) (by decide +kernel)⟩⟩
theorem fl_X7_59 : FL RX7 59 7 5 (RX7, TX7, 7) := ⟨rfl, by omega, by show 5 < 7; omega, kl_7, Or.inl (in_g 274 (by decide +kernel) rfl)⟩
theorem fl_X8_84 : FL RX8 84 7 5 (RX7, TX7, 7) := ⟨rfl, by omega, by show 5 < 7; omega, kl_7, Or.inr ⟨"TentCamp", List.mem_of_getElem? (i := 275) (by decide +kernel)⟩⟩
theorem fl_X7_62 : FL RX7 62 7 6 (RX7, TX7, 7) := ⟨rfl, by omega, by show 6 < 7; omega, kl_7, Or.inl (in_g 276 (by decide +kernel) rfl)⟩
theorem fl_X8_87 : FL RX8 87 7 6 (RX7, TX7, 7) := ⟨rfl, by omega, by show 6 < 7; omega, kl_7, Or.inr ⟨"TentCamp", List.mem_of_getElem? (i := 277) (by decide +kernel)⟩⟩
theorem fl_X8_10 : FL RX8 10 8 0 (RX8, TX8, 6) := ⟨rfl, by omega, by show 0 < 6; omega, kl_8, Or.inl (in_g 297 (by decide +kernel) rfl)⟩
theorem fl_X8_16 : FL RX8 16 8 1 (RX8, TX8, 6) := ⟨rfl, by omega, by show 1 < 6; omega, kl_8, Or.inl (in_g 298 (by decide +kernel) rfl)⟩
theorem fl_X8_22 : FL RX8 22 8 2 (RX8, TX8, 6) := ⟨rfl, by omega, by show 2 < 6; omega, kl_8, Or.inl (in_g 299 (by decide +kernel) rfl)⟩
theorem fl_X8_29 : FL RX8 29 8 3 (RX8, TX8, 6) := ⟨rfl, by omega, by show 3 < 6; omega, kl_8, Or.inl (in_g 300 (by decide +kernel) rfl)⟩
theorem fl_X8_38 : FL RX8 38 8 4 (RX8, TX8, 6) := ⟨rfl, by omega, by show 4 < 6; omega, kl_8, Or.inl (in_g 301 (by decide +kernel) rfl)⟩
theorem fl_X8_45 : FL RX8 45 8 5 (RX8, TX8, 6) := ⟨rfl, by omega, by show 5 < 6; omega, kl_8, Or.inl (in_g 302 (by decide +kernel) rfl)⟩
theorem fl_X9_36 : FL RX9 36 9 0 (RX9, TX9, 13) := ⟨rfl, by omega, by show 0 < 13; omega, kl_9, Or.inl (in_g 911 (by decide +kernel) rfl)⟩
theorem fl_X9_7 : FL RX9 7 9 1 (RX9, TX9, 13) := ⟨rfl, by omega, by show 1 < 13; omega, kl_9, Or.inl (in_g 912 (by decide +kernel) rfl)⟩
theorem fl_X9_125 : FL RX9 125 9 2 (RX9, TX9, 13) := ⟨rfl, by omega, by show 2 < 13; omega, kl_9, Or.inl (in_g 913 (by decide +kernel) rfl)⟩
theorem fl_X9_132 : FL RX9 132 9 3 (RX9, TX9, 13) := ⟨rfl, by omega, by show 3 < 13; omega, kl_9, Or.inl (in_g 914 (by decide +kernel) rfl)⟩
theorem fl_X9_135 : FL RX9 135 9 4 (RX9, TX9, 13) := ⟨rfl, by omega, by show 4 < 13; omega, kl_9, Or.inl (in_g 915 (by decide +kernel) rfl)⟩
theorem fl_X9_162 : FL RX9 162 9 5 (RX9, TX9, 13) := ⟨rfl, by omega, by show 5 < 13; omega, kl_9, Or.inl (in_g 916 (by decide +kernel) rfl)⟩
theorem fl_X9_13 : FL RX9 13 9 6 (RX9, TX9, 13) := ⟨rfl, by omega, by show 6 < 13; omega, kl_9, Or.inl (in_g 917 (by decide +kernel) rfl)⟩
theorem fl_X9_16 : FL RX9 16 9 7 (RX9, TX9, 13) := ⟨rfl, by omega, by show 7 < 13; omega, kl_9, Or.inl (in_g 918 (by decide +kernel) rfl)⟩
theorem fl_X9_19 : FL RX9 19 9 8 (RX9, TX9, 13) := ⟨rfl, by omega, by show 8 < 13; omega, kl_9, Or.inl (in_g 919 (by decide +kernel) rfl)⟩
theorem fl_X9_22 : FL RX9 22 9 9 (RX9, TX9, 13) := ⟨rfl, by omega, by show 9 < 13; omega, kl_9, Or.inl (in_g 920 (by decide +kernel) rfl)⟩
theorem fl_X9_42 : FL RX9 42 9 10 (RX9, TX9, 13) := ⟨rfl, by omega, by show 10 < 13; omega, kl_9, Or.inl (in_g 921 (by decide +kernel) rfl)⟩
theorem fl_X9_25 : FL RX9 25 9 11 (RX9, TX9, 13) := ⟨rfl, by omega, by show 11 < 13; omega, kl_9, Or.inl (in_g 922 (by decide +kernel) rfl)⟩
theorem fl_X9_28 : FL RX9 28 9 12 (RX9, TX9, 13) := ⟨rfl, by omega, by show 12 < 13; omega, kl_9, Or.inl (in_g 923 (by decide +kernel) rfl)⟩
abbrev mX8_init : AM := (yX8_init, cX8_init, 1, none, [], false)
theorem mo_X8_init : MOK mX8_init 0 := ⟨(in_g 63 (by decide +kernel) rfl), (in_g 41 (by decide +kernel) rfl), ⟨by decide +kernel, by decide +kernel⟩, by decide +kernel, by decide, by decide +kernel, fun h => by first | rfl | cases h⟩
theorem iv_X8_init : Cond.instanceMethod yX8_init ∈ gtbl := (in_g 62 (by decide +kernel) rfl)
abbrev mX0_init : AM := (yX0_init, cX0_init, 1, none, [], false)
theorem mo_X0_init : MOK mX0_init 0 := ⟨(in_g 71 (by decide +kernel) rfl), (in_g 42 (by decide +kernel) rfl), ⟨by decide +kernel, by decide +kernel⟩, by decide +kernel, by decide, by decide +kernel, fun h => by first | rfl | cases h⟩
theorem iv_X0_init : Cond.instanceMethod yX0_init ∈ gtbl := (in_g 70 (by decide +kernel) rfl)
abbrev mX4_init : AM := (yX4_init, cX4_init, 2, none, [], false)
theorem mo_X4_init : MOK mX4_init 1 := ⟨(in_g 77 (by decide +kernel) rfl), (in_g 43 (by decide +kernel) rfl), ⟨by decide +kernel, by decide +kernel⟩, by decide +kernel, by decide, by decide +kernel, fun h => by first | rfl | cases h⟩
theorem iv_X4_init : Cond.instanceMethod yX4_init ∈ gtbl := (in_g 76 (by decide +kernel) rfl)
abbrev mX6_init : AM := (yX6_init, cX6_init, 1, none, [], false)
theorem mo_X6_init : MOK mX6_init 0 := ⟨(in_g 91 (by decide +kernel) rfl), (in_g 45 (by decide +kernel) rfl), ⟨by decide +kernel, by decide +kernel⟩, by decide +kernel, by decide, by decide +kernel, fun h => by first | rfl | cases h⟩
theorem iv_X6_init : Cond.instanceMethod yX6_init ∈ gtbl := (in_g 90 (by decide +kernel) rfl)
abbrev mX2_init : AM := (yX2_init, cX2_init, 1, none, [], false)
theorem mo_X2_init : MOK mX2_init 0 := ⟨(in_g 125 (by decide +kernel) rfl), (in_g 46 (by decide +kernel) rfl), ⟨by decide +kernel, by decide +kernel⟩, by decide +kernel, by decide, by decide +kernel, fun h => by first | rfl | cases h⟩
theorem iv_X2_init : Cond.instanceMethod yX2_init ∈ gtbl := (in_g 124 (by decide +kernel) rfl)
abbrev mX1_init : AM := (yX1_init, cX1_init, 1, none, [], false)
theorem mo_X1_init : MOK mX1_init 0 := ⟨(in_g 149 (by decide +kernel) rfl), (in_g 47 (by decide +kernel) rfl), ⟨by decide +kernel, by decide +kernel⟩, by decide +kernel, by decide, by decide +kernel, fun h => by first | rfl | cases h⟩
theorem iv_X1_init : Cond.instanceMethod yX1_init ∈ gtbl := (in_g 148 (by decide +kernel) rfl)
abbrev mX3_init : AM := (yX3_init, cX3_init, 1, none, [], false)
theorem mo_X3_init : MOK mX3_init 0 := ⟨(in_g 232 (by decide +kernel) rfl), (in_g 48 (by decide +kernel) rfl), ⟨by decide +kernel, by decide +kernel⟩, by decide +kernel, by decide, by decide +kernel, fun h => by first | rfl | cases h⟩
theorem iv_X3_init : Cond.instanceMethod yX3_init ∈ gtbl := (in_g 231 (by decide +kernel) rfl)
abbrev mX5_init : AM := (yX5_init, cX5_init, 3, none, [], false)
theorem mo_X5_init : MOK mX5_init 1 := ⟨(in_g 238 (by decide +kernel) rfl), (in_g 49 (by decide +kernel) rfl), ⟨by decide +kernel, by decide +kernel⟩, by decide +kernel, by decide, by decide +kernel, fun h => by first | rfl | cases h⟩
theorem iv_X5_init : Cond.instanceMethod yX5_init ∈ gtbl := (in_g 237 (by decide +kernel) rfl)
abbrev mX7_init : AM := (yX7_init, cX7_init, 1, none, [], false)
theorem mo_X7_init : MOK mX7_init 0 := ⟨(in_g 263 (by decide +kernel) rfl), (in_g 50 (by decide +kernel) rfl), ⟨by decide +kernel, by decide +kernel⟩, by decide +kernel, by decide, by decide +kernel, fun h => by first | rfl | cases h⟩
theorem iv_X7_init : Cond.instanceMethod yX7_init ∈ gtbl := (in_g 262 (by decide +kernel) rfl)
abbrev mX8_clearText : AM := (yX8_clearText, cX8_clearText, 2, some (.int), [], false)
theorem mo_X8_clearText : MOK mX8_clearText 0 := ⟨(in_g 319 (by decide +kernel) rfl), (in_g 41 (by decide +kernel) rfl), ⟨by decide +kernel, by decide +kernel⟩, by decide +kernel, by decide, by decide +kernel, fun h => by first | rfl | cases h⟩
theorem iv_X8_clearText : Cond.instanceMethod yX8_clearText ∈ gtbl := (in_g 317 (by decide +kernel) rfl)
theorem se_X8_clearText : Cond.selects yX8_clearText.cls yX8_clearText yX8_clearText ∈ gtbl := (in_g 318 (by decide +kernel) rfl)
abbrev mX8_errorPosition : AM := (yX8_errorPosition, cX8_errorPosition, 1, some (.int), [], false)
theorem mo_X8_errorPosition : MOK mX8_errorPosition 0 := ⟨(in_g 323 (by decide +kernel) rfl), (in_g 41 (by decide +kernel) rfl), ⟨by decide +kernel, by decide +kernel⟩, by decide +kernel, by decide, by decide +kernel, fun h => by first | rfl | cases h⟩
theorem iv_X8_errorPosition : Cond.instanceMethod yX8_errorPosition ∈ gtbl := (in_g 321 (by decide +kernel) rfl)
theorem se_X8_errorPosition : Cond.selects yX8_errorPosition.cls yX8_errorPosition yX8_errorPosition ∈ gtbl := (in_g 322 (by decide +kernel) rfl)
abbrev mX7_faultPosition : AM := (yX7_faultPosition, cX7_faultPosition, 2, some (.int), [], false)
theorem mo_X7_faultPosition : MOK mX7_faultPosition 0 := ⟨(in_g 327 (by decide +kernel) rfl), (in_g 50 (by decide +kernel) rfl), ⟨by decide +kernel, by decide +kernel⟩, by decide +kernel, by decide, by decide +kernel, fun h => by first | rfl | cases h⟩
theorem iv_X7_faultPosition : Cond.instanceMethod yX7_faultPosition ∈ gtbl := (in_g 325 (by decide +kernel) rfl)
theorem se_X7_faultPosition : Cond.selects yX7_faultPosition.cls yX7_faultPosition yX7_faultPosition ∈ gtbl := (in_g 326 (by decide +kernel) rfl)
abbrev mX7_readHead : AM := (yX7_readHead, cX7_readHead, 1, none, [], false)
theorem mo_X7_readHead : MOK mX7_readHead 0 := ⟨(in_g 331 (by decide +kernel) rfl), (in_g 50 (by decide +kernel) rfl), ⟨by decide +kernel, by decide +kernel⟩, by decide +kernel, by decide, by decide +kernel, fun h => by first | rfl | cases h⟩
theorem iv_X7_readHead : Cond.instanceMethod yX7_readHead ∈ gtbl := (in_g 329 (by decide +kernel) rfl)
theorem se_X7_readHead : Cond.selects yX7_readHead.cls yX7_readHead yX7_readHead ∈ gtbl := (in_g 330 (by decide +kernel) rfl)
abbrev mX7_readLetter : AM := (yX7_readLetter, cX7_readLetter, 2, some (.int), [], false)
theorem mo_X7_readLetter : MOK mX7_readLetter 0 := ⟨(in_g 335 (by decide +kernel) rfl), (in_g 50 (by decide +kernel) rfl), ⟨by decide +kernel, by decide +kernel⟩, by decide +kernel, by decide, by decide +kernel, fun h => by first | rfl | cases h⟩
theorem iv_X7_readLetter : Cond.instanceMethod yX7_readLetter ∈ gtbl := (in_g 334 (by decide +kernel) rfl)
theorem se_X7_readLetter : Cond.selects yX7_readLetter.cls yX7_readLetter yX7_readLetter ∈ gtbl := (in_g 0 (by decide +kernel) rfl)
abbrev mX7_goesOn : AM := (yX7_goesOn, cX7_goesOn, 1, some (.boolean), [], false)
theorem mo_X7_goesOn : MOK mX7_goesOn 0 := ⟨(in_g 339 (by decide +kernel) rfl), (in_g 50 (by decide +kernel) rfl), ⟨by decide +kernel, by decide +kernel⟩, by decide +kernel, by decide, by decide +kernel, fun h => by first | rfl | cases h⟩
theorem iv_X7_goesOn : Cond.instanceMethod yX7_goesOn ∈ gtbl := (in_g 337 (by decide +kernel) rfl)
theorem se_X7_goesOn : Cond.selects yX7_goesOn.cls yX7_goesOn yX7_goesOn ∈ gtbl := (in_g 338 (by decide +kernel) rfl)
abbrev mX4_get : AM := (yX4_get, cX4_get, 2, some (.int), [], false)
theorem mo_X4_get : MOK mX4_get 1 := ⟨(in_g 343 (by decide +kernel) rfl), (in_g 43 (by decide +kernel) rfl), ⟨by decide +kernel, by decide +kernel⟩, by decide +kernel, by decide, by decide +kernel, fun h => by first | rfl | cases h⟩
theorem iv_X4_get : Cond.instanceMethod yX4_get ∈ gtbl := (in_g 341 (by decide +kernel) rfl)
theorem se_X4_get : Cond.selects yX4_get.cls yX4_get yX4_get ∈ gtbl := (in_g 342 (by decide +kernel) rfl)
abbrev mX7_failAt : AM := (yX7_failAt, cX7_failAt, 2, none, [], false)
theorem mo_X7_failAt : MOK mX7_failAt 1 := ⟨(in_g 347 (by decide +kernel) rfl), (in_g 50 (by decide +kernel) rfl), ⟨by decide +kernel, by decide +kernel⟩, by decide +kernel, by decide, by decide +kernel, fun h => by first | rfl | cases h⟩
theorem iv_X7_failAt : Cond.instanceMethod yX7_failAt ∈ gtbl := (in_g 346 (by decide +kernel) rfl)
theorem se_X7_failAt : Cond.selects yX7_failAt.cls yX7_failAt yX7_failAt ∈ gtbl := (in_g 1 (by decide +kernel) rfl)
abbrev mX7_readNumber : AM := (yX7_readNumber, cX7_readNumber, 9, some (.int), [], false)
theorem mo_X7_readNumber : MOK mX7_readNumber 3 := ⟨(in_g 351 (by decide +kernel) rfl), (in_g 50 (by decide +kernel) rfl), ⟨by decide +kernel, by decide +kernel⟩, by decide +kernel, by decide, by decide +kernel, fun h => by first | rfl | cases h⟩
theorem iv_X7_readNumber : Cond.instanceMethod yX7_readNumber ∈ gtbl := (in_g 350 (by decide +kernel) rfl)
theorem se_X7_readNumber : Cond.selects yX7_readNumber.cls yX7_readNumber yX7_readNumber ∈ gtbl := (in_g 2 (by decide +kernel) rfl)
abbrev mX7_digitHere : AM := (yX7_digitHere, cX7_digitHere, 2, some (.int), [], false)
theorem mo_X7_digitHere : MOK mX7_digitHere 0 := ⟨(in_g 355 (by decide +kernel) rfl), (in_g 50 (by decide +kernel) rfl), ⟨by decide +kernel, by decide +kernel⟩, by decide +kernel, by decide, by decide +kernel, fun h => by first | rfl | cases h⟩
theorem iv_X7_digitHere : Cond.instanceMethod yX7_digitHere ∈ gtbl := (in_g 354 (by decide +kernel) rfl)
theorem se_X7_digitHere : Cond.selects yX7_digitHere.cls yX7_digitHere yX7_digitHere ∈ gtbl := (in_g 3 (by decide +kernel) rfl)
abbrev mX7_readCommand : AM := (yX7_readCommand, cX7_readCommand, 2, none, [], false)
theorem mo_X7_readCommand : MOK mX7_readCommand 0 := ⟨(in_g 359 (by decide +kernel) rfl), (in_g 50 (by decide +kernel) rfl), ⟨by decide +kernel, by decide +kernel⟩, by decide +kernel, by decide, by decide +kernel, fun h => by first | rfl | cases h⟩
theorem iv_X7_readCommand : Cond.instanceMethod yX7_readCommand ∈ gtbl := (in_g 357 (by decide +kernel) rfl)
theorem se_X7_readCommand : Cond.selects yX7_readCommand.cls yX7_readCommand yX7_readCommand ∈ gtbl := (in_g 358 (by decide +kernel) rfl)
abbrev mX7_readStep : AM := (yX7_readStep, cX7_readStep, 2, some (.int), [], false)
theorem mo_X7_readStep : MOK mX7_readStep 0 := ⟨(in_g 363 (by decide +kernel) rfl), (in_g 50 (by decide +kernel) rfl), ⟨by decide +kernel, by decide +kernel⟩, by decide +kernel, by decide, by decide +kernel, fun h => by first | rfl | cases h⟩
theorem iv_X7_readStep : Cond.instanceMethod yX7_readStep ∈ gtbl := (in_g 362 (by decide +kernel) rfl)
theorem se_X7_readStep : Cond.selects yX7_readStep.cls yX7_readStep yX7_readStep ∈ gtbl := (in_g 4 (by decide +kernel) rfl)
abbrev mX8_isStep : AM := (yX8_isStep, cX8_isStep, 1, some (.boolean), [], false)
theorem mo_X8_isStep : MOK mX8_isStep 1 := ⟨(in_g 366 (by decide +kernel) rfl), (in_g 41 (by decide +kernel) rfl), ⟨by decide +kernel, by decide +kernel⟩, by decide +kernel, by decide, by decide +kernel, fun h => by first | rfl | cases h⟩
theorem st_X8_isStep : Cond.static yX8_isStep ∈ gtbl := (in_g 365 (by decide +kernel) rfl)
abbrev mX8_bestSize : AM := (yX8_bestSize, cX8_bestSize, 4, some (.int), [], false)
theorem mo_X8_bestSize : MOK mX8_bestSize 0 := ⟨(in_g 370 (by decide +kernel) rfl), (in_g 41 (by decide +kernel) rfl), ⟨by decide +kernel, by decide +kernel⟩, by decide +kernel, by decide, by decide +kernel, fun h => by first | rfl | cases h⟩
theorem iv_X8_bestSize : Cond.instanceMethod yX8_bestSize ∈ gtbl := (in_g 368 (by decide +kernel) rfl)
theorem se_X8_bestSize : Cond.selects yX8_bestSize.cls yX8_bestSize yX8_bestSize ∈ gtbl := (in_g 369 (by decide +kernel) rfl)
abbrev mX0_beginAnew : AM := (yX0_beginAnew, cX0_beginAnew, 3, none, [], false)
theorem mo_X0_beginAnew : MOK mX0_beginAnew 2 := ⟨(in_g 374 (by decide +kernel) rfl), (in_g 42 (by decide +kernel) rfl), ⟨by decide +kernel, by decide +kernel⟩, by decide +kernel, by decide, by decide +kernel, fun h => by first | rfl | cases h⟩
theorem iv_X0_beginAnew : Cond.instanceMethod yX0_beginAnew ∈ gtbl := (in_g 372 (by decide +kernel) rfl)
theorem se_X0_beginAnew : Cond.selects yX0_beginAnew.cls yX0_beginAnew yX0_beginAnew ∈ gtbl := (in_g 373 (by decide +kernel) rfl)
abbrev mX0_putUpAll : AM := (yX0_putUpAll, cX0_putUpAll, 3, some (.boolean), [], false)
theorem mo_X0_putUpAll : MOK mX0_putUpAll 1 := ⟨(in_g 378 (by decide +kernel) rfl), (in_g 42 (by decide +kernel) rfl), ⟨by decide +kernel, by decide +kernel⟩, by decide +kernel, by decide, by decide +kernel, fun h => by first | rfl | cases h⟩
theorem iv_X0_putUpAll : Cond.instanceMethod yX0_putUpAll ∈ gtbl := (in_g 376 (by decide +kernel) rfl)
theorem se_X0_putUpAll : Cond.selects yX0_putUpAll.cls yX0_putUpAll yX0_putUpAll ∈ gtbl := (in_g 377 (by decide +kernel) rfl)
abbrev mX0_putUp : AM := (yX0_putUp, cX0_putUp, 5, some (.int), [], false)
theorem mo_X0_putUp : MOK mX0_putUp 2 := ⟨(in_g 383 (by decide +kernel) rfl), (in_g 42 (by decide +kernel) rfl), ⟨by decide +kernel, by decide +kernel⟩, by decide +kernel, by decide, by decide +kernel, fun h => by first | rfl | cases h⟩
theorem iv_X0_putUp : Cond.instanceMethod yX0_putUp ∈ gtbl := (in_g 381 (by decide +kernel) rfl)
theorem se_X0_putUp : Cond.selects yX0_putUp.cls yX0_putUp yX0_putUp ∈ gtbl := (in_g 382 (by decide +kernel) rfl)
abbrev mX0_takeSite : AM := (yX0_takeSite, cX0_takeSite, 6, some (.int), [], false)
theorem mo_X0_takeSite : MOK mX0_takeSite 2 := ⟨(in_g 387 (by decide +kernel) rfl), (in_g 42 (by decide +kernel) rfl), ⟨by decide +kernel, by decide +kernel⟩, by decide +kernel, by decide, by decide +kernel, fun h => by first | rfl | cases h⟩
theorem iv_X0_takeSite : Cond.instanceMethod yX0_takeSite ∈ gtbl := (in_g 385 (by decide +kernel) rfl)
theorem se_X0_takeSite : Cond.selects yX0_takeSite.cls yX0_takeSite yX0_takeSite ∈ gtbl := (in_g 386 (by decide +kernel) rfl)
abbrev mX0_siteFor : AM := (yX0_siteFor, cX0_siteFor, 4, some (.int), [], false)
theorem mo_X0_siteFor : MOK mX0_siteFor 2 := ⟨(in_g 391 (by decide +kernel) rfl), (in_g 42 (by decide +kernel) rfl), ⟨by decide +kernel, by decide +kernel⟩, by decide +kernel, by decide, by decide +kernel, fun h => by first | rfl | cases h⟩
theorem iv_X0_siteFor : Cond.instanceMethod yX0_siteFor ∈ gtbl := (in_g 389 (by decide +kernel) rfl)
theorem se_X0_siteFor : Cond.selects yX0_siteFor.cls yX0_siteFor yX0_siteFor ∈ gtbl := (in_g 390 (by decide +kernel) rfl)
abbrev mX1_lastUsual : AM := (yX1_lastUsual, cX1_lastUsual, 3, some (.int), [], false)
theorem mo_X1_lastUsual : MOK mX1_lastUsual 0 := ⟨(in_g 395 (by decide +kernel) rfl), (in_g 47 (by decide +kernel) rfl), ⟨by decide +kernel, by decide +kernel⟩, by decide +kernel, by decide, by decide +kernel, fun h => by first | rfl | cases h⟩
theorem iv_X1_lastUsual : Cond.instanceMethod yX1_lastUsual ∈ gtbl := (in_g 393 (by decide +kernel) rfl)
theorem se_X1_lastUsual : Cond.selects yX1_lastUsual.cls yX1_lastUsual yX1_lastUsual ∈ gtbl := (in_g 394 (by decide +kernel) rfl)
abbrev mX0_openPlace : AM := (yX0_openPlace, cX0_openPlace, 4, some (.int), [], false)
theorem mo_X0_openPlace : MOK mX0_openPlace 2 := ⟨(in_g 400 (by decide +kernel) rfl), (in_g 42 (by decide +kernel) rfl), ⟨by decide +kernel, by decide +kernel⟩, by decide +kernel, by decide, by decide +kernel, fun h => by first | rfl | cases h⟩
theorem iv_X0_openPlace : Cond.instanceMethod yX0_openPlace ∈ gtbl := (in_g 399 (by decide +kernel) rfl)
theorem se_X0_openPlace : Cond.selects yX0_openPlace.cls yX0_openPlace yX0_openPlace ∈ gtbl := (in_g 5 (by decide +kernel) rfl)
abbrev mX1_smallestFor : AM := (yX1_smallestFor, cX1_smallestFor, 4, some (.int), [], false)
theorem mo_X1_smallestFor : MOK mX1_smallestFor 1 := ⟨(in_g 404 (by decide +kernel) rfl), (in_g 47 (by decide +kernel) rfl), ⟨by decide +kernel, by decide +kernel⟩, by decide +kernel, by decide, by decide +kernel, fun h => by first | rfl | cases h⟩
theorem iv_X1_smallestFor : Cond.instanceMethod yX1_smallestFor ∈ gtbl := (in_g 402 (by decide +kernel) rfl)
theorem se_X1_smallestFor : Cond.selects yX1_smallestFor.cls yX1_smallestFor yX1_smallestFor ∈ gtbl := (in_g 403 (by decide +kernel) rfl)
abbrev mX0_newFieldSize : AM := (yX0_newFieldSize, cX0_newFieldSize, 2, some (.int), [], false)
theorem mo_X0_newFieldSize : MOK mX0_newFieldSize 1 := ⟨(in_g 408 (by decide +kernel) rfl), (in_g 42 (by decide +kernel) rfl), ⟨by decide +kernel, by decide +kernel⟩, by decide +kernel, by decide, by decide +kernel, fun h => by first | rfl | cases h⟩
theorem iv_X0_newFieldSize : Cond.instanceMethod yX0_newFieldSize ∈ gtbl := (in_g 407 (by decide +kernel) rfl)
theorem se_X0_newFieldSize : Cond.selects yX0_newFieldSize.cls yX0_newFieldSize yX0_newFieldSize ∈ gtbl := (in_g 6 (by decide +kernel) rfl)
abbrev mX0_wantsBig : AM := (yX0_wantsBig, cX0_wantsBig, 2, some (.boolean), [], false)
theorem mo_X0_wantsBig : MOK mX0_wantsBig 1 := ⟨(in_g 412 (by decide +kernel) rfl), (in_g 42 (by decide +kernel) rfl), ⟨by decide +kernel, by decide +kernel⟩, by decide +kernel, by decide, by decide +kernel, fun h => by first | rfl | cases h⟩
theorem iv_X0_wantsBig : Cond.instanceMethod yX0_wantsBig ∈ gtbl := (in_g 411 (by decide +kernel) rfl)
theorem se_X0_wantsBig : Cond.selects yX0_wantsBig.cls yX0_wantsBig yX0_wantsBig ∈ gtbl := (in_g 7 (by decide +kernel) rfl)
abbrev mX4_put : AM := (yX4_put, cX4_put, 3, none, [], false)
theorem mo_X4_put : MOK mX4_put 2 := ⟨(in_g 416 (by decide +kernel) rfl), (in_g 43 (by decide +kernel) rfl), ⟨by decide +kernel, by decide +kernel⟩, by decide +kernel, by decide, by decide +kernel, fun h => by first | rfl | cases h⟩
theorem iv_X4_put : Cond.instanceMethod yX4_put ∈ gtbl := (in_g 414 (by decide +kernel) rfl)
theorem se_X4_put : Cond.selects yX4_put.cls yX4_put yX4_put ∈ gtbl := (in_g 415 (by decide +kernel) rfl)
abbrev mX1_add : AM := (yX1_add, cX1_add, 5, none, [], false)
theorem mo_X1_add : MOK mX1_add 4 := ⟨(in_g 420 (by decide +kernel) rfl), (in_g 47 (by decide +kernel) rfl), ⟨by decide +kernel, by decide +kernel⟩, by decide +kernel, by decide, by decide +kernel, fun h => by first | rfl | cases h⟩
theorem iv_X1_add : Cond.instanceMethod yX1_add ∈ gtbl := (in_g 418 (by decide +kernel) rfl)
theorem se_X1_add : Cond.selects yX1_add.cls yX1_add yX1_add ∈ gtbl := (in_g 419 (by decide +kernel) rfl)
abbrev mX1_remove : AM := (yX1_remove, cX1_remove, 2, none, [], false)
theorem mo_X1_remove : MOK mX1_remove 1 := ⟨(in_g 425 (by decide +kernel) rfl), (in_g 47 (by decide +kernel) rfl), ⟨by decide +kernel, by decide +kernel⟩, by decide +kernel, by decide, by decide +kernel, fun h => by first | rfl | cases h⟩
theorem iv_X1_remove : Cond.instanceMethod yX1_remove ∈ gtbl := (in_g 423 (by decide +kernel) rfl)
theorem se_X1_remove : Cond.selects yX1_remove.cls yX1_remove yX1_remove ∈ gtbl := (in_g 424 (by decide +kernel) rfl)
abbrev mX1_has : AM := (yX1_has, cX1_has, 2, some (.boolean), [], false)
theorem mo_X1_has : MOK mX1_has 1 := ⟨(in_g 429 (by decide +kernel) rfl), (in_g 47 (by decide +kernel) rfl), ⟨by decide +kernel, by decide +kernel⟩, by decide +kernel, by decide, by decide +kernel, fun h => by first | rfl | cases h⟩
theorem iv_X1_has : Cond.instanceMethod yX1_has ∈ gtbl := (in_g 427 (by decide +kernel) rfl)
theorem se_X1_has : Cond.selects yX1_has.cls yX1_has yX1_has ∈ gtbl := (in_g 428 (by decide +kernel) rfl)
abbrev mX4_cut : AM := (yX4_cut, cX4_cut, 4, none, [], false)
theorem mo_X4_cut : MOK mX4_cut 2 := ⟨(in_g 433 (by decide +kernel) rfl), (in_g 43 (by decide +kernel) rfl), ⟨by decide +kernel, by decide +kernel⟩, by decide +kernel, by decide, by decide +kernel, fun h => by first | rfl | cases h⟩
theorem iv_X4_cut : Cond.instanceMethod yX4_cut ∈ gtbl := (in_g 431 (by decide +kernel) rfl)
theorem se_X4_cut : Cond.selects yX4_cut.cls yX4_cut yX4_cut ∈ gtbl := (in_g 432 (by decide +kernel) rfl)
abbrev mX4_strew : AM := (yX4_strew, cX4_strew, 6, none, [], false)
theorem mo_X4_strew : MOK mX4_strew 3 := ⟨(in_g 437 (by decide +kernel) rfl), (in_g 43 (by decide +kernel) rfl), ⟨by decide +kernel, by decide +kernel⟩, by decide +kernel, by decide, by decide +kernel, fun h => by first | rfl | cases h⟩
theorem iv_X4_strew : Cond.instanceMethod yX4_strew ∈ gtbl := (in_g 435 (by decide +kernel) rfl)
theorem se_X4_strew : Cond.selects yX4_strew.cls yX4_strew yX4_strew ∈ gtbl := (in_g 436 (by decide +kernel) rfl)
abbrev mX6_placesFrom : AM := (yX6_placesFrom, cX6_placesFrom, 4, some (.int), [], false)
theorem mo_X6_placesFrom : MOK mX6_placesFrom 1 := ⟨(in_g 444 (by decide +kernel) rfl), (in_g 45 (by decide +kernel) rfl), ⟨by decide +kernel, by decide +kernel⟩, by decide +kernel, by decide, by decide +kernel, fun h => by first | rfl | cases h⟩
theorem iv_X6_placesFrom : Cond.instanceMethod yX6_placesFrom ∈ gtbl := (in_g 442 (by decide +kernel) rfl)
theorem se_X6_placesFrom : Cond.selects yX6_placesFrom.cls yX6_placesFrom yX6_placesFrom ∈ gtbl := (in_g 443 (by decide +kernel) rfl)
abbrev mL_append : AM := (yL_append, cL_append, 4, some (.int), [(0, 9, 12, 13), (0, 9, 15, 15)], true)
theorem mo_L_append : MOK mL_append 3 := ⟨(in_g 449 (by decide +kernel) rfl), (in_g 40 (by decide +kernel) rfl), ⟨by decide +kernel, by decide +kernel⟩, by decide +kernel, by decide, by decide +kernel, fun h => by first | rfl | cases h⟩
theorem st_L_append : Cond.static yL_append ∈ gtbl := (in_g 448 (by decide +kernel) rfl)
abbrev mX8_append : AM := (yX8_append, cX8_append, 2, some (.int), [], false)
theorem mo_X8_append : MOK mX8_append 1 := ⟨(in_g 455 (by decide +kernel) rfl), (in_g 41 (by decide +kernel) rfl), ⟨by decide +kernel, by decide +kernel⟩, by decide +kernel, by decide, by decide +kernel, fun h => by first | rfl | cases h⟩
theorem iv_X8_append : Cond.instanceMethod yX8_append ∈ gtbl := (in_g 453 (by decide +kernel) rfl)
theorem se_X8_append : Cond.selects yX8_append.cls yX8_append yX8_append ∈ gtbl := (in_g 454 (by decide +kernel) rfl)
abbrev mX7_add : AM := (yX7_add, cX7_add, 2, none, [], false)
theorem mo_X7_add : MOK mX7_add 1 := ⟨(in_g 543 (by decide +kernel) rfl), (in_g 50 (by decide +kernel) rfl), ⟨by decide +kernel, by decide +kernel⟩, by decide +kernel, by decide, by decide +kernel, fun h => by first | rfl | cases h⟩
theorem iv_X7_add : Cond.instanceMethod yX7_add ∈ gtbl := (in_g 541 (by decide +kernel) rfl)
theorem se_X7_add : Cond.selects yX7_add.cls yX7_add yX7_add ∈ gtbl := (in_g 542 (by decide +kernel) rfl)
abbrev mL_load : AM := (yL_load, cL_load, 3, some (.int), [(0, 8, 11, 15)], true)
theorem mo_L_load : MOK mL_load 2 := ⟨(in_g 547 (by decide +kernel) rfl), (in_g 40 (by decide +kernel) rfl), ⟨by decide +kernel, by decide +kernel⟩, by decide +kernel, by decide, by decide +kernel, fun h => by first | rfl | cases h⟩
theorem st_L_load : Cond.static yL_load ∈ gtbl := (in_g 546 (by decide +kernel) rfl)
abbrev mX8_load : AM := (yX8_load, cX8_load, 3, some (.int), [], false)
theorem mo_X8_load : MOK mX8_load 0 := ⟨(in_g 551 (by decide +kernel) rfl), (in_g 41 (by decide +kernel) rfl), ⟨by decide +kernel, by decide +kernel⟩, by decide +kernel, by decide, by decide +kernel, fun h => by first | rfl | cases h⟩
theorem iv_X8_load : Cond.instanceMethod yX8_load ∈ gtbl := (in_g 549 (by decide +kernel) rfl)
theorem se_X8_load : Cond.selects yX8_load.cls yX8_load yX8_load ∈ gtbl := (in_g 550 (by decide +kernel) rfl)
abbrev mX3_forgetAll : AM := (yX3_forgetAll, cX3_forgetAll, 1, none, [], false)
theorem mo_X3_forgetAll : MOK mX3_forgetAll 0 := ⟨(in_g 556 (by decide +kernel) rfl), (in_g 48 (by decide +kernel) rfl), ⟨by decide +kernel, by decide +kernel⟩, by decide +kernel, by decide, by decide +kernel, fun h => by first | rfl | cases h⟩
theorem iv_X3_forgetAll : Cond.instanceMethod yX3_forgetAll ∈ gtbl := (in_g 554 (by decide +kernel) rfl)
theorem se_X3_forgetAll : Cond.selects yX3_forgetAll.cls yX3_forgetAll yX3_forgetAll ∈ gtbl := (in_g 555 (by decide +kernel) rfl)
abbrev mX8_carryOut : AM := (yX8_carryOut, cX8_carryOut, 2, some (.boolean), [], false)
theorem mo_X8_carryOut : MOK mX8_carryOut 2 := ⟨(in_g 563 (by decide +kernel) rfl), (in_g 41 (by decide +kernel) rfl), ⟨by decide +kernel, by decide +kernel⟩, by decide +kernel, by decide, by decide +kernel, fun h => by first | rfl | cases h⟩
theorem st_X8_carryOut : Cond.static yX8_carryOut ∈ gtbl := (in_g 562 (by decide +kernel) rfl)
abbrev mX0_goIn : AM := (yX0_goIn, cX0_goIn, 2, some (.int), [], false)
theorem mo_X0_goIn : MOK mX0_goIn 0 := ⟨(in_g 568 (by decide +kernel) rfl), (in_g 42 (by decide +kernel) rfl), ⟨by decide +kernel, by decide +kernel⟩, by decide +kernel, by decide, by decide +kernel, fun h => by first | rfl | cases h⟩
theorem iv_X0_goIn : Cond.instanceMethod yX0_goIn ∈ gtbl := (in_g 566 (by decide +kernel) rfl)
theorem se_X0_goIn : Cond.selects yX0_goIn.cls yX0_goIn yX0_goIn ∈ gtbl := (in_g 567 (by decide +kernel) rfl)
abbrev mX0_goOut : AM := (yX0_goOut, cX0_goOut, 2, some (.int), [], false)
theorem mo_X0_goOut : MOK mX0_goOut 0 := ⟨(in_g 572 (by decide +kernel) rfl), (in_g 42 (by decide +kernel) rfl), ⟨by decide +kernel, by decide +kernel⟩, by decide +kernel, by decide, by decide +kernel, fun h => by first | rfl | cases h⟩
theorem iv_X0_goOut : Cond.instanceMethod yX0_goOut ∈ gtbl := (in_g 570 (by decide +kernel) rfl)
theorem se_X0_goOut : Cond.selects yX0_goOut.cls yX0_goOut yX0_goOut ∈ gtbl := (in_g 571 (by decide +kernel) rfl)
abbrev mX0_goBack : AM := (yX0_goBack, cX0_goBack, 3, some (.int), [], false)
theorem mo_X0_goBack : MOK mX0_goBack 1 := ⟨(in_g 576 (by decide +kernel) rfl), (in_g 42 (by decide +kernel) rfl), ⟨by decide +kernel, by decide +kernel⟩, by decide +kernel, by decide, by decide +kernel, fun h => by first | rfl | cases h⟩
theorem iv_X0_goBack : Cond.instanceMethod yX0_goBack ∈ gtbl := (in_g 574 (by decide +kernel) rfl)
theorem se_X0_goBack : Cond.selects yX0_goBack.cls yX0_goBack yX0_goBack ∈ gtbl := (in_g 575 (by decide +kernel) rfl)
abbrev mX2_has : AM := (yX2_has, cX2_has, 2, some (.boolean), [], false)
theorem mo_X2_has : MOK mX2_has 1 := ⟨(in_g 580 (by decide +kernel) rfl), (in_g 46 (by decide +kernel) rfl), ⟨by decide +kernel, by decide +kernel⟩, by decide +kernel, by decide, by decide +kernel, fun h => by first | rfl | cases h⟩
theorem iv_X2_has : Cond.instanceMethod yX2_has ∈ gtbl := (in_g 578 (by decide +kernel) rfl)
theorem se_X2_has : Cond.selects yX2_has.cls yX2_has yX2_has ∈ gtbl := (in_g 579 (by decide +kernel) rfl)
abbrev mX0_strikeTents : AM := (yX0_strikeTents, cX0_strikeTents, 4, some (.int), [], false)
theorem mo_X0_strikeTents : MOK mX0_strikeTents 1 := ⟨(in_g 584 (by decide +kernel) rfl), (in_g 42 (by decide +kernel) rfl), ⟨by decide +kernel, by decide +kernel⟩, by decide +kernel, by decide, by decide +kernel, fun h => by first | rfl | cases h⟩
theorem iv_X0_strikeTents : Cond.instanceMethod yX0_strikeTents ∈ gtbl := (in_g 583 (by decide +kernel) rfl)
theorem se_X0_strikeTents : Cond.selects yX0_strikeTents.cls yX0_strikeTents yX0_strikeTents ∈ gtbl := (in_g 9 (by decide +kernel) rfl)
abbrev mX0_strewTent : AM := (yX0_strewTent, cX0_strewTent, 7, some (.int), [], false)
theorem mo_X0_strewTent : MOK mX0_strewTent 2 := ⟨(in_g 588 (by decide +kernel) rfl), (in_g 42 (by decide +kernel) rfl), ⟨by decide +kernel, by decide +kernel⟩, by decide +kernel, by decide, by decide +kernel, fun h => by first | rfl | cases h⟩
theorem iv_X0_strewTent : Cond.instanceMethod yX0_strewTent ∈ gtbl := (in_g 586 (by decide +kernel) rfl)
theorem se_X0_strewTent : Cond.selects yX0_strewTent.cls yX0_strewTent yX0_strewTent ∈ gtbl := (in_g 587 (by decide +kernel) rfl)
abbrev mX6_has : AM := (yX6_has, cX6_has, 2, some (.boolean), [], false)
theorem mo_X6_has : MOK mX6_has 1 := ⟨(in_g 592 (by decide +kernel) rfl), (in_g 45 (by decide +kernel) rfl), ⟨by decide +kernel, by decide +kernel⟩, by decide +kernel, by decide, by decide +kernel, fun h => by first | rfl | cases h⟩
theorem iv_X6_has : Cond.instanceMethod yX6_has ∈ gtbl := (in_g 590 (by decide +kernel) rfl)
theorem se_X6_has : Cond.selects yX6_has.cls yX6_has yX6_has ∈ gtbl := (in_g 591 (by decide +kernel) rfl)
abbrev mX6_end : AM := (yX6_end, cX6_end, 2, some (.int), [], false)
theorem mo_X6_end : MOK mX6_end 1 := ⟨(in_g 596 (by decide +kernel) rfl), (in_g 45 (by decide +kernel) rfl), ⟨by decide +kernel, by decide +kernel⟩, by decide +kernel, by decide, by decide +kernel, fun h => by first | rfl | cases h⟩
theorem iv_X6_end : Cond.instanceMethod yX6_end ∈ gtbl := (in_g 594 (by decide +kernel) rfl)
theorem se_X6_end : Cond.selects yX6_end.cls yX6_end yX6_end ∈ gtbl := (in_g 595 (by decide +kernel) rfl)
abbrev mX4_countOf : AM := (yX4_countOf, cX4_countOf, 7, some (.int), [], false)
theorem mo_X4_countOf : MOK mX4_countOf 3 := ⟨(in_g 600 (by decide +kernel) rfl), (in_g 43 (by decide +kernel) rfl), ⟨by decide +kernel, by decide +kernel⟩, by decide +kernel, by decide, by decide +kernel, fun h => by first | rfl | cases h⟩
theorem iv_X4_countOf : Cond.instanceMethod yX4_countOf ∈ gtbl := (in_g 598 (by decide +kernel) rfl)
theorem se_X4_countOf : Cond.selects yX4_countOf.cls yX4_countOf yX4_countOf ∈ gtbl := (in_g 599 (by decide +kernel) rfl)
abbrev mX0_clearFields : AM := (yX0_clearFields, cX0_clearFields, 3, none, [], false)
theorem mo_X0_clearFields : MOK mX0_clearFields 1 := ⟨(in_g 604 (by decide +kernel) rfl), (in_g 42 (by decide +kernel) rfl), ⟨by decide +kernel, by decide +kernel⟩, by decide +kernel, by decide, by decide +kernel, fun h => by first | rfl | cases h⟩
theorem iv_X0_clearFields : Cond.instanceMethod yX0_clearFields ∈ gtbl := (in_g 603 (by decide +kernel) rfl)
theorem se_X0_clearFields : Cond.selects yX0_clearFields.cls yX0_clearFields yX0_clearFields ∈ gtbl := (in_g 10 (by decide +kernel) rfl)
abbrev mX0_giveUpTooMuch : AM := (yX0_giveUpTooMuch, cX0_giveUpTooMuch, 5, none, [], false)
theorem mo_X0_giveUpTooMuch : MOK mX0_giveUpTooMuch 0 := ⟨(in_g 608 (by decide +kernel) rfl), (in_g 42 (by decide +kernel) rfl), ⟨by decide +kernel, by decide +kernel⟩, by decide +kernel, by decide, by decide +kernel, fun h => by first | rfl | cases h⟩
theorem iv_X0_giveUpTooMuch : Cond.instanceMethod yX0_giveUpTooMuch ∈ gtbl := (in_g 607 (by decide +kernel) rfl)
theorem se_X0_giveUpTooMuch : Cond.selects yX0_giveUpTooMuch.cls yX0_giveUpTooMuch yX0_giveUpTooMuch ∈ gtbl := (in_g 11 (by decide +kernel) rfl)
abbrev mX1_places : AM := (yX1_places, cX1_places, 3, some (.int), [], false)
theorem mo_X1_places : MOK mX1_places 0 := ⟨(in_g 612 (by decide +kernel) rfl), (in_g 47 (by decide +kernel) rfl), ⟨by decide +kernel, by decide +kernel⟩, by decide +kernel, by decide, by decide +kernel, fun h => by first | rfl | cases h⟩
theorem iv_X1_places : Cond.instanceMethod yX1_places ∈ gtbl := (in_g 610 (by decide +kernel) rfl)
theorem se_X1_places : Cond.selects yX1_places.cls yX1_places yX1_places ∈ gtbl := (in_g 611 (by decide +kernel) rfl)
abbrev mX1_greatest : AM := (yX1_greatest, cX1_greatest, 3, some (.int), [], false)
theorem mo_X1_greatest : MOK mX1_greatest 0 := ⟨(in_g 616 (by decide +kernel) rfl), (in_g 47 (by decide +kernel) rfl), ⟨by decide +kernel, by decide +kernel⟩, by decide +kernel, by decide, by decide +kernel, fun h => by first | rfl | cases h⟩
theorem iv_X1_greatest : Cond.instanceMethod yX1_greatest ∈ gtbl := (in_g 614 (by decide +kernel) rfl)
theorem se_X1_greatest : Cond.selects yX1_greatest.cls yX1_greatest yX1_greatest ∈ gtbl := (in_g 615 (by decide +kernel) rfl)
abbrev mX1_closeUp : AM := (yX1_closeUp, cX1_closeUp, 4, none, [], false)
theorem mo_X1_closeUp : MOK mX1_closeUp 2 := ⟨(in_g 621 (by decide +kernel) rfl), (in_g 47 (by decide +kernel) rfl), ⟨by decide +kernel, by decide +kernel⟩, by decide +kernel, by decide, by decide +kernel, fun h => by first | rfl | cases h⟩
theorem iv_X1_closeUp : Cond.instanceMethod yX1_closeUp ∈ gtbl := (in_g 619 (by decide +kernel) rfl)
theorem se_X1_closeUp : Cond.selects yX1_closeUp.cls yX1_closeUp yX1_closeUp ∈ gtbl := (in_g 620 (by decide +kernel) rfl)
abbrev mL_about : AM := (yL_about, cL_about, 4, some (.int), [(0, 9, 12, 13)], true)
theorem mo_L_about : MOK mL_about 3 := ⟨(in_g 626 (by decide +kernel) rfl), (in_g 40 (by decide +kernel) rfl), ⟨by decide +kernel, by decide +kernel⟩, by decide +kernel, by decide, by decide +kernel, fun h => by first | rfl | cases h⟩
theorem st_L_about : Cond.static yL_about ∈ gtbl := (in_g 625 (by decide +kernel) rfl)
abbrev mX8_about : AM := (yX8_about, cX8_about, 2, some (.int), [], false)
theorem mo_X8_about : MOK mX8_about 1 := ⟨(in_g 630 (by decide +kernel) rfl), (in_g 41 (by decide +kernel) rfl), ⟨by decide +kernel, by decide +kernel⟩, by decide +kernel, by decide, by decide +kernel, fun h => by first | rfl | cases h⟩
theorem iv_X8_about : Cond.instanceMethod yX8_about ∈ gtbl := (in_g 628 (by decide +kernel) rfl)
theorem se_X8_about : Cond.selects yX8_about.cls yX8_about yX8_about ∈ gtbl := (in_g 629 (by decide +kernel) rfl)
abbrev mX0_gaps : AM := (yX0_gaps, cX0_gaps, 4, some (.int), [], false)
theorem mo_X0_gaps : MOK mX0_gaps 0 := ⟨(in_g 636 (by decide +kernel) rfl), (in_g 42 (by decide +kernel) rfl), ⟨by decide +kernel, by decide +kernel⟩, by decide +kernel, by decide, by decide +kernel, fun h => by first | rfl | cases h⟩
theorem iv_X0_gaps : Cond.instanceMethod yX0_gaps ∈ gtbl := (in_g 634 (by decide +kernel) rfl)
theorem se_X0_gaps : Cond.selects yX0_gaps.cls yX0_gaps yX0_gaps ∈ gtbl := (in_g 635 (by decide +kernel) rfl)
abbrev mL_tent : AM := (yL_tent, cL_tent, 5, some (.int), [(0, 10, 13, 28), (0, 10, 17, 13)], true)
theorem mo_L_tent : MOK mL_tent 4 := ⟨(in_g 640 (by decide +kernel) rfl), (in_g 40 (by decide +kernel) rfl), ⟨by decide +kernel, by decide +kernel⟩, by decide +kernel, by decide, by decide +kernel, fun h => by first | rfl | cases h⟩
theorem st_L_tent : Cond.static yL_tent ∈ gtbl := (in_g 639 (by decide +kernel) rfl)
abbrev mX8_tent : AM := (yX8_tent, cX8_tent, 3, some (.int), [], false)
theorem mo_X8_tent : MOK mX8_tent 2 := ⟨(in_g 645 (by decide +kernel) rfl), (in_g 41 (by decide +kernel) rfl), ⟨by decide +kernel, by decide +kernel⟩, by decide +kernel, by decide, by decide +kernel, fun h => by first | rfl | cases h⟩
theorem iv_X8_tent : Cond.instanceMethod yX8_tent ∈ gtbl := (in_g 643 (by decide +kernel) rfl)
theorem se_X8_tent : Cond.selects yX8_tent.cls yX8_tent yX8_tent ∈ gtbl := (in_g 644 (by decide +kernel) rfl)
abbrev mX2_lastAheadOf : AM := (yX2_lastAheadOf, cX2_lastAheadOf, 4, some (.int), [], false)
theorem mo_X2_lastAheadOf : MOK mX2_lastAheadOf 1 := ⟨(in_g 667 (by decide +kernel) rfl), (in_g 46 (by decide +kernel) rfl), ⟨by decide +kernel, by decide +kernel⟩, by decide +kernel, by decide, by decide +kernel, fun h => by first | rfl | cases h⟩
theorem iv_X2_lastAheadOf : Cond.instanceMethod yX2_lastAheadOf ∈ gtbl := (in_g 665 (by decide +kernel) rfl)
theorem se_X2_lastAheadOf : Cond.selects yX2_lastAheadOf.cls yX2_lastAheadOf yX2_lastAheadOf ∈ gtbl := (in_g 666 (by decide +kernel) rfl)
abbrev mL_field : AM := (yL_field, cL_field, 5, some (.int), [(0, 10, 13, 28), (0, 10, 17, 13)], true)
theorem mo_L_field : MOK mL_field 4 := ⟨(in_g 672 (by decide +kernel) rfl), (in_g 40 (by decide +kernel) rfl), ⟨by decide +kernel, by decide +kernel⟩, by decide +kernel, by decide, by decide +kernel, fun h => by first | rfl | cases h⟩
theorem st_L_field : Cond.static yL_field ∈ gtbl := (in_g 671 (by decide +kernel) rfl)
abbrev mX8_field : AM := (yX8_field, cX8_field, 5, some (.int), [], false)
theorem mo_X8_field : MOK mX8_field 2 := ⟨(in_g 676 (by decide +kernel) rfl), (in_g 41 (by decide +kernel) rfl), ⟨by decide +kernel, by decide +kernel⟩, by decide +kernel, by decide, by decide +kernel, fun h => by first | rfl | cases h⟩
theorem iv_X8_field : Cond.instanceMethod yX8_field ∈ gtbl := (in_g 674 (by decide +kernel) rfl)
theorem se_X8_field : Cond.selects yX8_field.cls yX8_field yX8_field ∈ gtbl := (in_g 675 (by decide +kernel) rfl)
abbrev mX6_countOn : AM := (yX6_countOn, cX6_countOn, 2, some (.int), [], false)
theorem mo_X6_countOn : MOK mX6_countOn 1 := ⟨(in_g 682 (by decide +kernel) rfl), (in_g 45 (by decide +kernel) rfl), ⟨by decide +kernel, by decide +kernel⟩, by decide +kernel, by decide, by decide +kernel, fun h => by first | rfl | cases h⟩
theorem iv_X6_countOn : Cond.instanceMethod yX6_countOn ∈ gtbl := (in_g 680 (by decide +kernel) rfl)
theorem se_X6_countOn : Cond.selects yX6_countOn.cls yX6_countOn yX6_countOn ∈ gtbl := (in_g 681 (by decide +kernel) rfl)
abbrev mL_place : AM := (yL_place, cL_place, 5, some (.int), [(0, 10, 13, 28)], true)
theorem mo_L_place : MOK mL_place 4 := ⟨(in_g 687 (by decide +kernel) rfl), (in_g 40 (by decide +kernel) rfl), ⟨by decide +kernel, by decide +kernel⟩, by decide +kernel, by decide, by decide +kernel, fun h => by first | rfl | cases h⟩
theorem st_L_place : Cond.static yL_place ∈ gtbl := (in_g 686 (by decide +kernel) rfl)
abbrev mX8_place : AM := (yX8_place, cX8_place, 3, some (.int), [], false)
theorem mo_X8_place : MOK mX8_place 2 := ⟨(in_g 691 (by decide +kernel) rfl), (in_g 41 (by decide +kernel) rfl), ⟨by decide +kernel, by decide +kernel⟩, by decide +kernel, by decide, by decide +kernel, fun h => by first | rfl | cases h⟩
theorem iv_X8_place : Cond.instanceMethod yX8_place ∈ gtbl := (in_g 689 (by decide +kernel) rfl)
theorem se_X8_place : Cond.selects yX8_place.cls yX8_place yX8_place ∈ gtbl := (in_g 690 (by decide +kernel) rfl)
abbrev mL_spare : AM := (yL_spare, cL_spare, 4, some (.int), [(0, 9, 12, 13)], true)
theorem mo_L_spare : MOK mL_spare 3 := ⟨(in_g 695 (by decide +kernel) rfl), (in_g 40 (by decide +kernel) rfl), ⟨by decide +kernel, by decide +kernel⟩, by decide +kernel, by decide, by decide +kernel, fun h => by first | rfl | cases h⟩
theorem st_L_spare : Cond.static yL_spare ∈ gtbl := (in_g 694 (by decide +kernel) rfl)
abbrev mX8_spare : AM := (yX8_spare, cX8_spare, 3, some (.int), [], false)
theorem mo_X8_spare : MOK mX8_spare 1 := ⟨(in_g 699 (by decide +kernel) rfl), (in_g 41 (by decide +kernel) rfl), ⟨by decide +kernel, by decide +kernel⟩, by decide +kernel, by decide, by decide +kernel, fun h => by first | rfl | cases h⟩
theorem iv_X8_spare : Cond.instanceMethod yX8_spare ∈ gtbl := (in_g 697 (by decide +kernel) rfl)
theorem se_X8_spare : Cond.selects yX8_spare.cls yX8_spare yX8_spare ∈ gtbl := (in_g 698 (by decide +kernel) rfl)
abbrev mX1_withRank : AM := (yX1_withRank, cX1_withRank, 3, some (.int), [], false)
theorem mo_X1_withRank : MOK mX1_withRank 1 := ⟨(in_g 704 (by decide +kernel) rfl), (in_g 47 (by decide +kernel) rfl), ⟨by decide +kernel, by decide +kernel⟩, by decide +kernel, by decide, by decide +kernel, fun h => by first | rfl | cases h⟩
theorem iv_X1_withRank : Cond.instanceMethod yX1_withRank ∈ gtbl := (in_g 702 (by decide +kernel) rfl)
theorem se_X1_withRank : Cond.selects yX1_withRank.cls yX1_withRank yX1_withRank ∈ gtbl := (in_g 703 (by decide +kernel) rfl)
abbrev mX1_countAheadOf : AM := (yX1_countAheadOf, cX1_countAheadOf, 4, some (.int), [], false)
theorem mo_X1_countAheadOf : MOK mX1_countAheadOf 1 := ⟨(in_g 708 (by decide +kernel) rfl), (in_g 47 (by decide +kernel) rfl), ⟨by decide +kernel, by decide +kernel⟩, by decide +kernel, by decide, by decide +kernel, fun h => by first | rfl | cases h⟩
theorem iv_X1_countAheadOf : Cond.instanceMethod yX1_countAheadOf ∈ gtbl := (in_g 707 (by decide +kernel) rfl)
theorem se_X1_countAheadOf : Cond.selects yX1_countAheadOf.cls yX1_countAheadOf yX1_countAheadOf ∈ gtbl := (in_g 12 (by decide +kernel) rfl)
abbrev mL_frame : AM := (yL_frame, cL_frame, 5, some (.int), [(0, 10, 13, 28), (0, 10, 17, 13)], true)
theorem mo_L_frame : MOK mL_frame 4 := ⟨(in_g 711 (by decide +kernel) rfl), (in_g 40 (by decide +kernel) rfl), ⟨by decide +kernel, by decide +kernel⟩, by decide +kernel, by decide, by decide +kernel, fun h => by first | rfl | cases h⟩
theorem st_L_frame : Cond.static yL_frame ∈ gtbl := (in_g 710 (by decide +kernel) rfl)
abbrev mX8_frame : AM := (yX8_frame, cX8_frame, 3, some (.int), [], false)
theorem mo_X8_frame : MOK mX8_frame 2 := ⟨(in_g 715 (by decide +kernel) rfl), (in_g 41 (by decide +kernel) rfl), ⟨by decide +kernel, by decide +kernel⟩, by decide +kernel, by decide, by decide +kernel, fun h => by first | rfl | cases h⟩
theorem iv_X8_frame : Cond.instanceMethod yX8_frame ∈ gtbl := (in_g 713 (by decide +kernel) rfl)
theorem se_X8_frame : Cond.selects yX8_frame.cls yX8_frame yX8_frame ∈ gtbl := (in_g 714 (by decide +kernel) rfl)
abbrev mL_pitch : AM := (yL_pitch, cL_pitch, 5, some (.int), [(0, 10, 13, 13), (0, 10, 17, 15)], true)
theorem mo_L_pitch : MOK mL_pitch 4 := ⟨(in_g 721 (by decide +kernel) rfl), (in_g 40 (by decide +kernel) rfl), ⟨by decide +kernel, by decide +kernel⟩, by decide +kernel, by decide, by decide +kernel, fun h => by first | rfl | cases h⟩
theorem st_L_pitch : Cond.static yL_pitch ∈ gtbl := (in_g 720 (by decide +kernel) rfl)
abbrev mX8_pitch : AM := (yX8_pitch, cX8_pitch, 3, some (.int), [], false)
theorem mo_X8_pitch : MOK mX8_pitch 2 := ⟨(in_g 725 (by decide +kernel) rfl), (in_g 41 (by decide +kernel) rfl), ⟨by decide +kernel, by decide +kernel⟩, by decide +kernel, by decide, by decide +kernel, fun h => by first | rfl | cases h⟩
theorem iv_X8_pitch : Cond.instanceMethod yX8_pitch ∈ gtbl := (in_g 723 (by decide +kernel) rfl)
theorem se_X8_pitch : Cond.selects yX8_pitch.cls yX8_pitch yX8_pitch ∈ gtbl := (in_g 724 (by decide +kernel) rfl)
abbrev mX8_isTentKind : AM := (yX8_isTentKind, cX8_isTentKind, 2, some (.boolean), [], false)
theorem mo_X8_isTentKind : MOK mX8_isTentKind 2 := ⟨(in_g 728 (by decide +kernel) rfl), (in_g 41 (by decide +kernel) rfl), ⟨by decide +kernel, by decide +kernel⟩, by decide +kernel, by decide, by decide +kernel, fun h => by first | rfl | cases h⟩
theorem st_X8_isTentKind : Cond.static yX8_isTentKind ∈ gtbl := (in_g 727 (by decide +kernel) rfl)
abbrev mX3_remember : AM := (yX3_remember, cX3_remember, 2, none, [], false)
theorem mo_X3_remember : MOK mX3_remember 1 := ⟨(in_g 736 (by decide +kernel) rfl), (in_g 48 (by decide +kernel) rfl), ⟨by decide +kernel, by decide +kernel⟩, by decide +kernel, by decide, by decide +kernel, fun h => by first | rfl | cases h⟩
theorem iv_X3_remember : Cond.instanceMethod yX3_remember ∈ gtbl := (in_g 734 (by decide +kernel) rfl)
theorem se_X3_remember : Cond.selects yX3_remember.cls yX3_remember yX3_remember ∈ gtbl := (in_g 735 (by decide +kernel) rfl)
abbrev mX5_lay : AM := (yX5_lay, cX5_lay, 4, none, [], false)
theorem mo_X5_lay : MOK mX5_lay 2 := ⟨(in_g 740 (by decide +kernel) rfl), (in_g 49 (by decide +kernel) rfl), ⟨by decide +kernel, by decide +kernel⟩, by decide +kernel, by decide, by decide +kernel, fun h => by first | rfl | cases h⟩
theorem iv_X5_lay : Cond.instanceMethod yX5_lay ∈ gtbl := (in_g 738 (by decide +kernel) rfl)
theorem se_X5_lay : Cond.selects yX5_lay.cls yX5_lay yX5_lay ∈ gtbl := (in_g 739 (by decide +kernel) rfl)
abbrev mX5_at : AM := (yX5_at, cX5_at, 2, some ((.object "TentCamp$Camp")), [], false)
theorem mo_X5_at : MOK mX5_at 1 := ⟨(in_g 744 (by decide +kernel) rfl), (in_g 49 (by decide +kernel) rfl), ⟨by decide +kernel, by decide +kernel⟩, by decide +kernel, by decide, by decide +kernel, fun h => by first | rfl | cases h⟩
theorem iv_X5_at : Cond.instanceMethod yX5_at ∈ gtbl := (in_g 743 (by decide +kernel) rfl)
theorem se_X5_at : Cond.selects yX5_at.cls yX5_at yX5_at ∈ gtbl := (in_g 13 (by decide +kernel) rfl)
abbrev mX0_copy : AM := (yX0_copy, cX0_copy, 2, none, [], false)
theorem mo_X0_copy : MOK mX0_copy 1 := ⟨(in_g 748 (by decide +kernel) rfl), (in_g 42 (by decide +kernel) rfl), ⟨by decide +kernel, by decide +kernel⟩, by decide +kernel, by decide, by decide +kernel, fun h => by first | rfl | cases h⟩
theorem iv_X0_copy : Cond.instanceMethod yX0_copy ∈ gtbl := (in_g 746 (by decide +kernel) rfl)
theorem se_X0_copy : Cond.selects yX0_copy.cls yX0_copy yX0_copy ∈ gtbl := (in_g 747 (by decide +kernel) rfl)
abbrev mX4_copy : AM := (yX4_copy, cX4_copy, 2, none, [], false)
theorem mo_X4_copy : MOK mX4_copy 1 := ⟨(in_g 752 (by decide +kernel) rfl), (in_g 43 (by decide +kernel) rfl), ⟨by decide +kernel, by decide +kernel⟩, by decide +kernel, by decide, by decide +kernel, fun h => by first | rfl | cases h⟩
theorem iv_X4_copy : Cond.instanceMethod yX4_copy ∈ gtbl := (in_g 750 (by decide +kernel) rfl)
theorem se_X4_copy : Cond.selects yX4_copy.cls yX4_copy yX4_copy ∈ gtbl := (in_g 751 (by decide +kernel) rfl)
abbrev mX6_copy : AM := (yX6_copy, cX6_copy, 2, none, [], false)
theorem mo_X6_copy : MOK mX6_copy 1 := ⟨(in_g 759 (by decide +kernel) rfl), (in_g 45 (by decide +kernel) rfl), ⟨by decide +kernel, by decide +kernel⟩, by decide +kernel, by decide, by decide +kernel, fun h => by first | rfl | cases h⟩
theorem iv_X6_copy : Cond.instanceMethod yX6_copy ∈ gtbl := (in_g 757 (by decide +kernel) rfl)
theorem se_X6_copy : Cond.selects yX6_copy.cls yX6_copy yX6_copy ∈ gtbl := (in_g 758 (by decide +kernel) rfl)
abbrev mX2_copy : AM := (yX2_copy, cX2_copy, 2, none, [], false)
theorem mo_X2_copy : MOK mX2_copy 1 := ⟨(in_g 764 (by decide +kernel) rfl), (in_g 46 (by decide +kernel) rfl), ⟨by decide +kernel, by decide +kernel⟩, by decide +kernel, by decide, by decide +kernel, fun h => by first | rfl | cases h⟩
theorem iv_X2_copy : Cond.instanceMethod yX2_copy ∈ gtbl := (in_g 762 (by decide +kernel) rfl)
theorem se_X2_copy : Cond.selects yX2_copy.cls yX2_copy yX2_copy ∈ gtbl := (in_g 763 (by decide +kernel) rfl)
abbrev mX1_copy : AM := (yX1_copy, cX1_copy, 2, none, [], false)
theorem mo_X1_copy : MOK mX1_copy 1 := ⟨(in_g 769 (by decide +kernel) rfl), (in_g 47 (by decide +kernel) rfl), ⟨by decide +kernel, by decide +kernel⟩, by decide +kernel, by decide, by decide +kernel, fun h => by first | rfl | cases h⟩
theorem iv_X1_copy : Cond.instanceMethod yX1_copy ∈ gtbl := (in_g 767 (by decide +kernel) rfl)
theorem se_X1_copy : Cond.selects yX1_copy.cls yX1_copy yX1_copy ∈ gtbl := (in_g 768 (by decide +kernel) rfl)
abbrev mL_fill : AM := (yL_fill, cL_fill, 5, some (.int), [(0, 10, 13, 28), (0, 10, 17, 13)], true)
theorem mo_L_fill : MOK mL_fill 4 := ⟨(in_g 774 (by decide +kernel) rfl), (in_g 40 (by decide +kernel) rfl), ⟨by decide +kernel, by decide +kernel⟩, by decide +kernel, by decide, by decide +kernel, fun h => by first | rfl | cases h⟩
theorem st_L_fill : Cond.static yL_fill ∈ gtbl := (in_g 773 (by decide +kernel) rfl)
abbrev mX8_fill : AM := (yX8_fill, cX8_fill, 3, some (.int), [], false)
theorem mo_X8_fill : MOK mX8_fill 2 := ⟨(in_g 778 (by decide +kernel) rfl), (in_g 41 (by decide +kernel) rfl), ⟨by decide +kernel, by decide +kernel⟩, by decide +kernel, by decide, by decide +kernel, fun h => by first | rfl | cases h⟩
theorem iv_X8_fill : Cond.instanceMethod yX8_fill ∈ gtbl := (in_g 776 (by decide +kernel) rfl)
theorem se_X8_fill : Cond.selects yX8_fill.cls yX8_fill yX8_fill ∈ gtbl := (in_g 777 (by decide +kernel) rfl)
abbrev mL_enter : AM := (yL_enter, cL_enter, 3, some (.int), [(0, 8, 11, 15)], true)
theorem mo_L_enter : MOK mL_enter 2 := ⟨(in_g 782 (by decide +kernel) rfl), (in_g 40 (by decide +kernel) rfl), ⟨by decide +kernel, by decide +kernel⟩, by decide +kernel, by decide, by decide +kernel, fun h => by first | rfl | cases h⟩
theorem st_L_enter : Cond.static yL_enter ∈ gtbl := (in_g 781 (by decide +kernel) rfl)
abbrev mX8_enter : AM := (yX8_enter, cX8_enter, 1, some (.int), [], false)
theorem mo_X8_enter : MOK mX8_enter 0 := ⟨(in_g 786 (by decide +kernel) rfl), (in_g 41 (by decide +kernel) rfl), ⟨by decide +kernel, by decide +kernel⟩, by decide +kernel, by decide, by decide +kernel, fun h => by first | rfl | cases h⟩
theorem iv_X8_enter : Cond.instanceMethod yX8_enter ∈ gtbl := (in_g 784 (by decide +kernel) rfl)
theorem se_X8_enter : Cond.selects yX8_enter.cls yX8_enter yX8_enter ∈ gtbl := (in_g 785 (by decide +kernel) rfl)
abbrev mL_leave : AM := (yL_leave, cL_leave, 3, some (.int), [(0, 8, 11, 15)], true)
theorem mo_L_leave : MOK mL_leave 2 := ⟨(in_g 790 (by decide +kernel) rfl), (in_g 40 (by decide +kernel) rfl), ⟨by decide +kernel, by decide +kernel⟩, by decide +kernel, by decide, by decide +kernel, fun h => by first | rfl | cases h⟩
theorem st_L_leave : Cond.static yL_leave ∈ gtbl := (in_g 789 (by decide +kernel) rfl)
abbrev mX8_leave : AM := (yX8_leave, cX8_leave, 1, some (.int), [], false)
theorem mo_X8_leave : MOK mX8_leave 0 := ⟨(in_g 794 (by decide +kernel) rfl), (in_g 41 (by decide +kernel) rfl), ⟨by decide +kernel, by decide +kernel⟩, by decide +kernel, by decide, by decide +kernel, fun h => by first | rfl | cases h⟩
theorem iv_X8_leave : Cond.instanceMethod yX8_leave ∈ gtbl := (in_g 792 (by decide +kernel) rfl)
theorem se_X8_leave : Cond.selects yX8_leave.cls yX8_leave yX8_leave ∈ gtbl := (in_g 793 (by decide +kernel) rfl)
abbrev mL_jump : AM := (yL_jump, cL_jump, 4, some (.int), [(0, 9, 12, 28)], true)
theorem mo_L_jump : MOK mL_jump 3 := ⟨(in_g 798 (by decide +kernel) rfl), (in_g 40 (by decide +kernel) rfl), ⟨by decide +kernel, by decide +kernel⟩, by decide +kernel, by decide, by decide +kernel, fun h => by first | rfl | cases h⟩
theorem st_L_jump : Cond.static yL_jump ∈ gtbl := (in_g 797 (by decide +kernel) rfl)
abbrev mX8_jump : AM := (yX8_jump, cX8_jump, 2, some (.int), [], false)
theorem mo_X8_jump : MOK mX8_jump 1 := ⟨(in_g 802 (by decide +kernel) rfl), (in_g 41 (by decide +kernel) rfl), ⟨by decide +kernel, by decide +kernel⟩, by decide +kernel, by decide, by decide +kernel, fun h => by first | rfl | cases h⟩
theorem iv_X8_jump : Cond.instanceMethod yX8_jump ∈ gtbl := (in_g 800 (by decide +kernel) rfl)
theorem se_X8_jump : Cond.selects yX8_jump.cls yX8_jump yX8_jump ∈ gtbl := (in_g 801 (by decide +kernel) rfl)
abbrev mL_set : AM := (yL_set, cL_set, 5, some (.int), [(0, 10, 13, 13)], true)
theorem mo_L_set : MOK mL_set 4 := ⟨(in_g 805 (by decide +kernel) rfl), (in_g 40 (by decide +kernel) rfl), ⟨by decide +kernel, by decide +kernel⟩, by decide +kernel, by decide, by decide +kernel, fun h => by first | rfl | cases h⟩
theorem st_L_set : Cond.static yL_set ∈ gtbl := (in_g 804 (by decide +kernel) rfl)
abbrev mX8_set : AM := (yX8_set, cX8_set, 4, some (.int), [], false)
theorem mo_X8_set : MOK mX8_set 2 := ⟨(in_g 809 (by decide +kernel) rfl), (in_g 41 (by decide +kernel) rfl), ⟨by decide +kernel, by decide +kernel⟩, by decide +kernel, by decide, by decide +kernel, fun h => by first | rfl | cases h⟩
theorem iv_X8_set : Cond.instanceMethod yX8_set ∈ gtbl := (in_g 807 (by decide +kernel) rfl)
theorem se_X8_set : Cond.selects yX8_set.cls yX8_set yX8_set ∈ gtbl := (in_g 808 (by decide +kernel) rfl)
abbrev mX8_isSetting : AM := (yX8_isSetting, cX8_isSetting, 2, some (.boolean), [], false)
theorem mo_X8_isSetting : MOK mX8_isSetting 2 := ⟨(in_g 812 (by decide +kernel) rfl), (in_g 41 (by decide +kernel) rfl), ⟨by decide +kernel, by decide +kernel⟩, by decide +kernel, by decide, by decide +kernel, fun h => by first | rfl | cases h⟩
theorem st_X8_isSetting : Cond.static yX8_isSetting ∈ gtbl := (in_g 811 (by decide +kernel) rfl)
abbrev mL_undo : AM := (yL_undo, cL_undo, 3, some (.int), [(0, 8, 11, 15)], true)
theorem mo_L_undo : MOK mL_undo 2 := ⟨(in_g 816 (by decide +kernel) rfl), (in_g 40 (by decide +kernel) rfl), ⟨by decide +kernel, by decide +kernel⟩, by decide +kernel, by decide, by decide +kernel, fun h => by first | rfl | cases h⟩
theorem st_L_undo : Cond.static yL_undo ∈ gtbl := (in_g 815 (by decide +kernel) rfl)
abbrev mX8_undo : AM := (yX8_undo, cX8_undo, 1, some (.int), [], false)
theorem mo_X8_undo : MOK mX8_undo 0 := ⟨(in_g 820 (by decide +kernel) rfl), (in_g 41 (by decide +kernel) rfl), ⟨by decide +kernel, by decide +kernel⟩, by decide +kernel, by decide, by decide +kernel, fun h => by first | rfl | cases h⟩
theorem iv_X8_undo : Cond.instanceMethod yX8_undo ∈ gtbl := (in_g 818 (by decide +kernel) rfl)
theorem se_X8_undo : Cond.selects yX8_undo.cls yX8_undo yX8_undo ∈ gtbl := (in_g 819 (by decide +kernel) rfl)
abbrev mX3_takeBack : AM := (yX3_takeBack, cX3_takeBack, 2, none, [], false)
theorem mo_X3_takeBack : MOK mX3_takeBack 1 := ⟨(in_g 825 (by decide +kernel) rfl), (in_g 48 (by decide +kernel) rfl), ⟨by decide +kernel, by decide +kernel⟩, by decide +kernel, by decide, by decide +kernel, fun h => by first | rfl | cases h⟩
theorem iv_X3_takeBack : Cond.instanceMethod yX3_takeBack ∈ gtbl := (in_g 823 (by decide +kernel) rfl)
theorem se_X3_takeBack : Cond.selects yX3_takeBack.cls yX3_takeBack yX3_takeBack ∈ gtbl := (in_g 824 (by decide +kernel) rfl)
abbrev mX5_fetch : AM := (yX5_fetch, cX5_fetch, 4, none, [], false)
theorem mo_X5_fetch : MOK mX5_fetch 2 := ⟨(in_g 830 (by decide +kernel) rfl), (in_g 49 (by decide +kernel) rfl), ⟨by decide +kernel, by decide +kernel⟩, by decide +kernel, by decide, by decide +kernel, fun h => by first | rfl | cases h⟩
theorem iv_X5_fetch : Cond.instanceMethod yX5_fetch ∈ gtbl := (in_g 828 (by decide +kernel) rfl)
theorem se_X5_fetch : Cond.selects yX5_fetch.cls yX5_fetch yX5_fetch ∈ gtbl := (in_g 829 (by decide +kernel) rfl)
abbrev mL_where : AM := (yL_where, cL_where, 5, some (.int), [(0, 10, 13, 13)], true)
theorem mo_L_where : MOK mL_where 4 := ⟨(in_g 833 (by decide +kernel) rfl), (in_g 40 (by decide +kernel) rfl), ⟨by decide +kernel, by decide +kernel⟩, by decide +kernel, by decide, by decide +kernel, fun h => by first | rfl | cases h⟩
theorem st_L_where : Cond.static yL_where ∈ gtbl := (in_g 832 (by decide +kernel) rfl)
abbrev mX8_where : AM := (yX8_where, cX8_where, 3, some (.int), [], false)
theorem mo_X8_where : MOK mX8_where 2 := ⟨(in_g 837 (by decide +kernel) rfl), (in_g 41 (by decide +kernel) rfl), ⟨by decide +kernel, by decide +kernel⟩, by decide +kernel, by decide, by decide +kernel, fun h => by first | rfl | cases h⟩
theorem iv_X8_where : Cond.instanceMethod yX8_where ∈ gtbl := (in_g 835 (by decide +kernel) rfl)
theorem se_X8_where : Cond.selects yX8_where.cls yX8_where yX8_where ∈ gtbl := (in_g 836 (by decide +kernel) rfl)
abbrev mL_givenUp : AM := (yL_givenUp, cL_givenUp, 4, some (.int), [(0, 9, 12, 28)], true)
theorem mo_L_givenUp : MOK mL_givenUp 3 := ⟨(in_g 840 (by decide +kernel) rfl), (in_g 40 (by decide +kernel) rfl), ⟨by decide +kernel, by decide +kernel⟩, by decide +kernel, by decide, by decide +kernel, fun h => by first | rfl | cases h⟩
theorem st_L_givenUp : Cond.static yL_givenUp ∈ gtbl := (in_g 839 (by decide +kernel) rfl)
abbrev mX8_givenUp : AM := (yX8_givenUp, cX8_givenUp, 2, some (.int), [], false)
theorem mo_X8_givenUp : MOK mX8_givenUp 1 := ⟨(in_g 844 (by decide +kernel) rfl), (in_g 41 (by decide +kernel) rfl), ⟨by decide +kernel, by decide +kernel⟩, by decide +kernel, by decide, by decide +kernel, fun h => by first | rfl | cases h⟩
theorem iv_X8_givenUp : Cond.instanceMethod yX8_givenUp ∈ gtbl := (in_g 842 (by decide +kernel) rfl)
theorem se_X8_givenUp : Cond.selects yX8_givenUp.cls yX8_givenUp yX8_givenUp ∈ gtbl := (in_g 843 (by decide +kernel) rfl)
abbrev mL_more : AM := (yL_more, cL_more, 5, some (.int), [(0, 10, 13, 13)], true)
theorem mo_L_more : MOK mL_more 4 := ⟨(in_g 848 (by decide +kernel) rfl), (in_g 40 (by decide +kernel) rfl), ⟨by decide +kernel, by decide +kernel⟩, by decide +kernel, by decide, by decide +kernel, fun h => by first | rfl | cases h⟩
theorem st_L_more : Cond.static yL_more ∈ gtbl := (in_g 847 (by decide +kernel) rfl)
abbrev mX8_more : AM := (yX8_more, cX8_more, 4, some (.int), [], false)
theorem mo_X8_more : MOK mX8_more 2 := ⟨(in_g 852 (by decide +kernel) rfl), (in_g 41 (by decide +kernel) rfl), ⟨by decide +kernel, by decide +kernel⟩, by decide +kernel, by decide, by decide +kernel, fun h => by first | rfl | cases h⟩
theorem iv_X8_more : Cond.instanceMethod yX8_more ∈ gtbl := (in_g 850 (by decide +kernel) rfl)
theorem se_X8_more : Cond.selects yX8_more.cls yX8_more yX8_more ∈ gtbl := (in_g 851 (by decide +kernel) rfl)
abbrev mL_runScript : AM := (yL_runScript, cL_runScript, 6, some (.int), [(0, 11, 14, 13)], true)
theorem mo_L_runScript : MOK mL_runScript 4 := ⟨(in_g 856 (by decide +kernel) rfl), (in_g 40 (by decide +kernel) rfl), ⟨by decide +kernel, by decide +kernel⟩, by decide +kernel, by decide, by decide +kernel, fun h => by first | rfl | cases h⟩
theorem st_L_runScript : Cond.static yL_runScript ∈ gtbl := (in_g 855 (by decide +kernel) rfl)
abbrev mX8_runScript : AM := (yX8_runScript, cX8_runScript, 8, some (.int), [], false)
theorem mo_X8_runScript : MOK mX8_runScript 2 := ⟨(in_g 860 (by decide +kernel) rfl), (in_g 41 (by decide +kernel) rfl), ⟨by decide +kernel, by decide +kernel⟩, by decide +kernel, by decide, by decide +kernel, fun h => by first | rfl | cases h⟩
theorem iv_X8_runScript : Cond.instanceMethod yX8_runScript ∈ gtbl := (in_g 858 (by decide +kernel) rfl)
theorem se_X8_runScript : Cond.selects yX8_runScript.cls yX8_runScript yX8_runScript ∈ gtbl := (in_g 859 (by decide +kernel) rfl)
abbrev mX8_succeeds : AM := (yX8_succeeds, cX8_succeeds, 5, some (.boolean), [], false)
theorem mo_X8_succeeds : MOK mX8_succeeds 2 := ⟨(in_g 866 (by decide +kernel) rfl), (in_g 41 (by decide +kernel) rfl), ⟨by decide +kernel, by decide +kernel⟩, by decide +kernel, by decide, by decide +kernel, fun h => by first | rfl | cases h⟩
theorem st_X8_succeeds : Cond.static yX8_succeeds ∈ gtbl := (in_g 865 (by decide +kernel) rfl)
abbrev mL_simulate : AM := (yL_simulate, cL_simulate, 6, some (.int), [(0, 11, 14, 13)], true)
theorem mo_L_simulate : MOK mL_simulate 4 := ⟨(in_g 872 (by decide +kernel) rfl), (in_g 40 (by decide +kernel) rfl), ⟨by decide +kernel, by decide +kernel⟩, by decide +kernel, by decide, by decide +kernel, fun h => by first | rfl | cases h⟩
theorem st_L_simulate : Cond.static yL_simulate ∈ gtbl := (in_g 871 (by decide +kernel) rfl)
abbrev mX8_simulate : AM := (yX8_simulate, cX8_simulate, 7, some (.int), [], false)
theorem mo_X8_simulate : MOK mX8_simulate 2 := ⟨(in_g 876 (by decide +kernel) rfl), (in_g 41 (by decide +kernel) rfl), ⟨by decide +kernel, by decide +kernel⟩, by decide +kernel, by decide, by decide +kernel, fun h => by first | rfl | cases h⟩
theorem iv_X8_simulate : Cond.instanceMethod yX8_simulate ∈ gtbl := (in_g 874 (by decide +kernel) rfl)
theorem se_X8_simulate : Cond.selects yX8_simulate.cls yX8_simulate yX8_simulate ∈ gtbl := (in_g 875 (by decide +kernel) rfl)
abbrev mX8_stepOnce : AM := (yX8_stepOnce, cX8_stepOnce, 2, none, [], false)
theorem mo_X8_stepOnce : MOK mX8_stepOnce 2 := ⟨(in_g 882 (by decide +kernel) rfl), (in_g 41 (by decide +kernel) rfl), ⟨by decide +kernel, by decide +kernel⟩, by decide +kernel, by decide, by decide +kernel, fun h => by first | rfl | cases h⟩
theorem st_X8_stepOnce : Cond.static yX8_stepOnce ∈ gtbl := (in_g 881 (by decide +kernel) rfl)
abbrev mL_save : AM := (yL_save, cL_save, 4, some (.int), [(0, 9, 12, 28)], true)
theorem mo_L_save : MOK mL_save 3 := ⟨(in_g 885 (by decide +kernel) rfl), (in_g 40 (by decide +kernel) rfl), ⟨by decide +kernel, by decide +kernel⟩, by decide +kernel, by decide, by decide +kernel, fun h => by first | rfl | cases h⟩
theorem st_L_save : Cond.static yL_save ∈ gtbl := (in_g 884 (by decide +kernel) rfl)
abbrev mX8_save : AM := (yX8_save, cX8_save, 2, some (.int), [], false)
theorem mo_X8_save : MOK mX8_save 1 := ⟨(in_g 889 (by decide +kernel) rfl), (in_g 41 (by decide +kernel) rfl), ⟨by decide +kernel, by decide +kernel⟩, by decide +kernel, by decide, by decide +kernel, fun h => by first | rfl | cases h⟩
theorem iv_X8_save : Cond.instanceMethod yX8_save ∈ gtbl := (in_g 887 (by decide +kernel) rfl)
theorem se_X8_save : Cond.selects yX8_save.cls yX8_save yX8_save ∈ gtbl := (in_g 888 (by decide +kernel) rfl)
abbrev mL_restore : AM := (yL_restore, cL_restore, 4, some (.int), [(0, 9, 12, 28), (0, 9, 15, 15)], true)
theorem mo_L_restore : MOK mL_restore 3 := ⟨(in_g 895 (by decide +kernel) rfl), (in_g 40 (by decide +kernel) rfl), ⟨by decide +kernel, by decide +kernel⟩, by decide +kernel, by decide, by decide +kernel, fun h => by first | rfl | cases h⟩
theorem st_L_restore : Cond.static yL_restore ∈ gtbl := (in_g 894 (by decide +kernel) rfl)
abbrev mX8_restore : AM := (yX8_restore, cX8_restore, 2, some (.int), [], false)
theorem mo_X8_restore : MOK mX8_restore 1 := ⟨(in_g 899 (by decide +kernel) rfl), (in_g 41 (by decide +kernel) rfl), ⟨by decide +kernel, by decide +kernel⟩, by decide +kernel, by decide, by decide +kernel, fun h => by first | rfl | cases h⟩
theorem iv_X8_restore : Cond.instanceMethod yX8_restore ∈ gtbl := (in_g 897 (by decide +kernel) rfl)
theorem se_X8_restore : Cond.selects yX8_restore.cls yX8_restore yX8_restore ∈ gtbl := (in_g 898 (by decide +kernel) rfl)
abbrev mX9_init : AM := (yX9_init, cX9_init, 1, none, [], false)
theorem mo_X9_init : MOK mX9_init 0 := ⟨(in_g 906 (by decide +kernel) rfl), (in_g 51 (by decide +kernel) rfl), ⟨by decide +kernel, by decide +kernel⟩, by decide +kernel, by decide, by decide +kernel, fun h => by first | rfl | cases h⟩
theorem iv_X9_init : Cond.instanceMethod yX9_init ∈ gtbl := (in_g 905 (by decide +kernel) rfl)
abbrev mX9_clean : AM := (yX9_clean, cX9_clean, 4, none, [], false)
theorem mo_X9_clean : MOK mX9_clean 3 := ⟨(in_g 910 (by decide +kernel) rfl), (in_g 51 (by decide +kernel) rfl), ⟨by decide +kernel, by decide +kernel⟩, by decide +kernel, by decide, by decide +kernel, fun h => by first | rfl | cases h⟩
theorem st_X9_clean : Cond.static yX9_clean ∈ gtbl := (in_g 909 (by decide +kernel) rfl)
abbrev mX9_thrown : AM := (yX9_thrown, cX9_thrown, 1, some (.int), [], false)
theorem mo_X9_thrown : MOK mX9_thrown 0 := ⟨(in_g 955 (by decide +kernel) rfl), (in_g 51 (by decide +kernel) rfl), ⟨by decide +kernel, by decide +kernel⟩, by decide +kernel, by decide, by decide +kernel, fun h => by first | rfl | cases h⟩
theorem iv_X9_thrown : Cond.instanceMethod yX9_thrown ∈ gtbl := (in_g 953 (by decide +kernel) rfl)
theorem se_X9_thrown : Cond.selects yX9_thrown.cls yX9_thrown yX9_thrown ∈ gtbl := (in_g 954 (by decide +kernel) rfl)
abbrev mX9_append : AM := (yX9_append, cX9_append, 2, some (.int), [], false)
theorem mo_X9_append : MOK mX9_append 1 := ⟨(in_g 959 (by decide +kernel) rfl), (in_g 51 (by decide +kernel) rfl), ⟨by decide +kernel, by decide +kernel⟩, by decide +kernel, by decide, by decide +kernel, fun h => by first | rfl | cases h⟩
theorem iv_X9_append : Cond.instanceMethod yX9_append ∈ gtbl := (in_g 957 (by decide +kernel) rfl)
theorem se_X9_append : Cond.selects yX9_append.cls yX9_append yX9_append ∈ gtbl := (in_g 958 (by decide +kernel) rfl)
abbrev mX9_in : AM := (yX9_in, cX9_in, 6, some (.boolean), [], false)
theorem mo_X9_in : MOK mX9_in 3 := ⟨(in_g 963 (by decide +kernel) rfl), (in_g 51 (by decide +kernel) rfl), ⟨by decide +kernel, by decide +kernel⟩, by decide +kernel, by decide, by decide +kernel, fun h => by first | rfl | cases h⟩
theorem st_X9_in : Cond.static yX9_in ∈ gtbl := (in_g 962 (by decide +kernel) rfl)
abbrev mX9_refused : AM := (yX9_refused, cX9_refused, 2, some (.boolean), [], false)
theorem mo_X9_refused : MOK mX9_refused 1 := ⟨(in_g 967 (by decide +kernel) rfl), (in_g 51 (by decide +kernel) rfl), ⟨by decide +kernel, by decide +kernel⟩, by decide +kernel, by decide, by decide +kernel, fun h => by first | rfl | cases h⟩
theorem iv_X9_refused : Cond.instanceMethod yX9_refused ∈ gtbl := (in_g 966 (by decide +kernel) rfl)
theorem se_X9_refused : Cond.selects yX9_refused.cls yX9_refused yX9_refused ∈ gtbl := (in_g 14 (by decide +kernel) rfl)
abbrev mX9_clearText : AM := (yX9_clearText, cX9_clearText, 2, some (.int), [], false)
theorem mo_X9_clearText : MOK mX9_clearText 0 := ⟨(in_g 971 (by decide +kernel) rfl), (in_g 51 (by decide +kernel) rfl), ⟨by decide +kernel, by decide +kernel⟩, by decide +kernel, by decide, by decide +kernel, fun h => by first | rfl | cases h⟩
theorem iv_X9_clearText : Cond.instanceMethod yX9_clearText ∈ gtbl := (in_g 969 (by decide +kernel) rfl)
theorem se_X9_clearText : Cond.selects yX9_clearText.cls yX9_clearText yX9_clearText ∈ gtbl := (in_g 970 (by decide +kernel) rfl)
abbrev mX9_errorPosition : AM := (yX9_errorPosition, cX9_errorPosition, 1, some (.int), [], false)
theorem mo_X9_errorPosition : MOK mX9_errorPosition 0 := ⟨(in_g 975 (by decide +kernel) rfl), (in_g 51 (by decide +kernel) rfl), ⟨by decide +kernel, by decide +kernel⟩, by decide +kernel, by decide, by decide +kernel, fun h => by first | rfl | cases h⟩
theorem iv_X9_errorPosition : Cond.instanceMethod yX9_errorPosition ∈ gtbl := (in_g 973 (by decide +kernel) rfl)
theorem se_X9_errorPosition : Cond.selects yX9_errorPosition.cls yX9_errorPosition yX9_errorPosition ∈ gtbl := (in_g 974 (by decide +kernel) rfl)
abbrev mX9_readText : AM := (yX9_readText, cX9_readText, 4, some (.int), [], false)
theorem mo_X9_readText : MOK mX9_readText 0 := ⟨(in_g 979 (by decide +kernel) rfl), (in_g 51 (by decide +kernel) rfl), ⟨by decide +kernel, by decide +kernel⟩, by decide +kernel, by decide, by decide +kernel, fun h => by first | rfl | cases h⟩
theorem iv_X9_readText : Cond.instanceMethod yX9_readText ∈ gtbl := (in_g 978 (by decide +kernel) rfl)
theorem se_X9_readText : Cond.selects yX9_readText.cls yX9_readText yX9_readText ∈ gtbl := (in_g 15 (by decide +kernel) rfl)
abbrev mX9_isNext : AM := (yX9_isNext, cX9_isNext, 2, some (.boolean), [], false)
theorem mo_X9_isNext : MOK mX9_isNext 1 := ⟨(in_g 983 (by decide +kernel) rfl), (in_g 51 (by decide +kernel) rfl), ⟨by decide +kernel, by decide +kernel⟩, by decide +kernel, by decide, by decide +kernel, fun h => by first | rfl | cases h⟩
theorem iv_X9_isNext : Cond.instanceMethod yX9_isNext ∈ gtbl := (in_g 982 (by decide +kernel) rfl)
theorem se_X9_isNext : Cond.selects yX9_isNext.cls yX9_isNext yX9_isNext ∈ gtbl := (in_g 16 (by decide +kernel) rfl)
abbrev mX9_accept : AM := (yX9_accept, cX9_accept, 2, none, [], false)
theorem mo_X9_accept : MOK mX9_accept 1 := ⟨(in_g 987 (by decide +kernel) rfl), (in_g 51 (by decide +kernel) rfl), ⟨by decide +kernel, by decide +kernel⟩, by decide +kernel, by decide, by decide +kernel, fun h => by first | rfl | cases h⟩
theorem iv_X9_accept : Cond.instanceMethod yX9_accept ∈ gtbl := (in_g 986 (by decide +kernel) rfl)
theorem se_X9_accept : Cond.selects yX9_accept.cls yX9_accept yX9_accept ∈ gtbl := (in_g 17 (by decide +kernel) rfl)
abbrev mX9_two : AM := (yX9_two, cX9_two, 6, some (.int), [], false)
theorem mo_X9_two : MOK mX9_two 2 := ⟨(in_g 991 (by decide +kernel) rfl), (in_g 51 (by decide +kernel) rfl), ⟨by decide +kernel, by decide +kernel⟩, by decide +kernel, by decide, by decide +kernel, fun h => by first | rfl | cases h⟩
theorem iv_X9_two : Cond.instanceMethod yX9_two ∈ gtbl := (in_g 990 (by decide +kernel) rfl)
theorem se_X9_two : Cond.selects yX9_two.cls yX9_two yX9_two ∈ gtbl := (in_g 18 (by decide +kernel) rfl)
abbrev mX9_digit : AM := (yX9_digit, cX9_digit, 4, some (.int), [], false)
theorem mo_X9_digit : MOK mX9_digit 2 := ⟨(in_g 995 (by decide +kernel) rfl), (in_g 51 (by decide +kernel) rfl), ⟨by decide +kernel, by decide +kernel⟩, by decide +kernel, by decide, by decide +kernel, fun h => by first | rfl | cases h⟩
theorem iv_X9_digit : Cond.instanceMethod yX9_digit ∈ gtbl := (in_g 994 (by decide +kernel) rfl)
theorem se_X9_digit : Cond.selects yX9_digit.cls yX9_digit yX9_digit ∈ gtbl := (in_g 19 (by decide +kernel) rfl)
abbrev mX9_readCommand : AM := (yX9_readCommand, cX9_readCommand, 1, none, [], false)
theorem mo_X9_readCommand : MOK mX9_readCommand 0 := ⟨(in_g 1000 (by decide +kernel) rfl), (in_g 51 (by decide +kernel) rfl), ⟨by decide +kernel, by decide +kernel⟩, by decide +kernel, by decide, by decide +kernel, fun h => by first | rfl | cases h⟩
theorem iv_X9_readCommand : Cond.instanceMethod yX9_readCommand ∈ gtbl := (in_g 999 (by decide +kernel) rfl)
theorem se_X9_readCommand : Cond.selects yX9_readCommand.cls yX9_readCommand yX9_readCommand ∈ gtbl := (in_g 20 (by decide +kernel) rfl)
abbrev mX9_readPitch : AM := (yX9_readPitch, cX9_readPitch, 4, none, [], false)
theorem mo_X9_readPitch : MOK mX9_readPitch 0 := ⟨(in_g 1004 (by decide +kernel) rfl), (in_g 51 (by decide +kernel) rfl), ⟨by decide +kernel, by decide +kernel⟩, by decide +kernel, by decide, by decide +kernel, fun h => by first | rfl | cases h⟩
theorem iv_X9_readPitch : Cond.instanceMethod yX9_readPitch ∈ gtbl := (in_g 1003 (by decide +kernel) rfl)
theorem se_X9_readPitch : Cond.selects yX9_readPitch.cls yX9_readPitch yX9_readPitch ∈ gtbl := (in_g 21 (by decide +kernel) rfl)
abbrev mX9_stepRead : AM := (yX9_stepRead, cX9_stepRead, 2, some (.int), [], false)
theorem mo_X9_stepRead : MOK mX9_stepRead 0 := ⟨(in_g 1008 (by decide +kernel) rfl), (in_g 51 (by decide +kernel) rfl), ⟨by decide +kernel, by decide +kernel⟩, by decide +kernel, by decide, by decide +kernel, fun h => by first | rfl | cases h⟩
theorem iv_X9_stepRead : Cond.instanceMethod yX9_stepRead ∈ gtbl := (in_g 1007 (by decide +kernel) rfl)
theorem se_X9_stepRead : Cond.selects yX9_stepRead.cls yX9_stepRead yX9_stepRead ∈ gtbl := (in_g 22 (by decide +kernel) rfl)
abbrev mX9_isStep : AM := (yX9_isStep, cX9_isStep, 1, some (.boolean), [], false)
theorem mo_X9_isStep : MOK mX9_isStep 1 := ⟨(in_g 1011 (by decide +kernel) rfl), (in_g 51 (by decide +kernel) rfl), ⟨by decide +kernel, by decide +kernel⟩, by decide +kernel, by decide, by decide +kernel, fun h => by first | rfl | cases h⟩
theorem st_X9_isStep : Cond.static yX9_isStep ∈ gtbl := (in_g 1010 (by decide +kernel) rfl)
abbrev mX9_canPitch : AM := (yX9_canPitch, cX9_canPitch, 3, some (.boolean), [], false)
theorem mo_X9_canPitch : MOK mX9_canPitch 3 := ⟨(in_g 1014 (by decide +kernel) rfl), (in_g 51 (by decide +kernel) rfl), ⟨by decide +kernel, by decide +kernel⟩, by decide +kernel, by decide, by decide +kernel, fun h => by first | rfl | cases h⟩
theorem st_X9_canPitch : Cond.static yX9_canPitch ∈ gtbl := (in_g 1013 (by decide +kernel) rfl)
abbrev mX9_whereIn : AM := (yX9_whereIn, cX9_whereIn, 4, some (.int), [], false)
theorem mo_X9_whereIn : MOK mX9_whereIn 3 := ⟨(in_g 1017 (by decide +kernel) rfl), (in_g 51 (by decide +kernel) rfl), ⟨by decide +kernel, by decide +kernel⟩, by decide +kernel, by decide, by decide +kernel, fun h => by first | rfl | cases h⟩
theorem st_X9_whereIn : Cond.static yX9_whereIn ∈ gtbl := (in_g 1016 (by decide +kernel) rfl)
abbrev mX9_roomOn : AM := (yX9_roomOn, cX9_roomOn, 5, some (.int), [], false)
theorem mo_X9_roomOn : MOK mX9_roomOn 3 := ⟨(in_g 1020 (by decide +kernel) rfl), (in_g 51 (by decide +kernel) rfl), ⟨by decide +kernel, by decide +kernel⟩, by decide +kernel, by decide, by decide +kernel, fun h => by first | rfl | cases h⟩
theorem st_X9_roomOn : Cond.static yX9_roomOn ∈ gtbl := (in_g 1019 (by decide +kernel) rfl)
abbrev mX9_lastUsual : AM := (yX9_lastUsual, cX9_lastUsual, 3, some (.int), [], false)
theorem mo_X9_lastUsual : MOK mX9_lastUsual 1 := ⟨(in_g 1023 (by decide +kernel) rfl), (in_g 51 (by decide +kernel) rfl), ⟨by decide +kernel, by decide +kernel⟩, by decide +kernel, by decide, by decide +kernel, fun h => by first | rfl | cases h⟩
theorem st_X9_lastUsual : Cond.static yX9_lastUsual ∈ gtbl := (in_g 1022 (by decide +kernel) rfl)
abbrev mX9_fieldAt : AM := (yX9_fieldAt, cX9_fieldAt, 2, some (.int), [], false)
theorem mo_X9_fieldAt : MOK mX9_fieldAt 2 := ⟨(in_g 1026 (by decide +kernel) rfl), (in_g 51 (by decide +kernel) rfl), ⟨by decide +kernel, by decide +kernel⟩, by decide +kernel, by decide, by decide +kernel, fun h => by first | rfl | cases h⟩
theorem st_X9_fieldAt : Cond.static yX9_fieldAt ∈ gtbl := (in_g 1025 (by decide +kernel) rfl)
abbrev mX9_spareFor : AM := (yX9_spareFor, cX9_spareFor, 5, some (.int), [], false)
theorem mo_X9_spareFor : MOK mX9_spareFor 2 := ⟨(in_g 1029 (by decide +kernel) rfl), (in_g 51 (by decide +kernel) rfl), ⟨by decide +kernel, by decide +kernel⟩, by decide +kernel, by decide, by decide +kernel, fun h => by first | rfl | cases h⟩
theorem st_X9_spareFor : Cond.static yX9_spareFor ∈ gtbl := (in_g 1028 (by decide +kernel) rfl)
abbrev mX9_spareAt : AM := (yX9_spareAt, cX9_spareAt, 2, some (.int), [], false)
theorem mo_X9_spareAt : MOK mX9_spareAt 2 := ⟨(in_g 1032 (by decide +kernel) rfl), (in_g 51 (by decide +kernel) rfl), ⟨by decide +kernel, by decide +kernel⟩, by decide +kernel, by decide, by decide +kernel, fun h => by first | rfl | cases h⟩
theorem st_X9_spareAt : Cond.static yX9_spareAt ∈ gtbl := (in_g 1031 (by decide +kernel) rfl)
abbrev mX9_isBig : AM := (yX9_isBig, cX9_isBig, 2, some (.boolean), [], false)
theorem mo_X9_isBig : MOK mX9_isBig 2 := ⟨(in_g 1035 (by decide +kernel) rfl), (in_g 51 (by decide +kernel) rfl), ⟨by decide +kernel, by decide +kernel⟩, by decide +kernel, by decide, by decide +kernel, fun h => by first | rfl | cases h⟩
theorem st_X9_isBig : Cond.static yX9_isBig ∈ gtbl := (in_g 1034 (by decide +kernel) rfl)
abbrev mX9_allPlaces : AM := (yX9_allPlaces, cX9_allPlaces, 1, some (.int), [], false)
theorem mo_X9_allPlaces : MOK mX9_allPlaces 1 := ⟨(in_g 1038 (by decide +kernel) rfl), (in_g 51 (by decide +kernel) rfl), ⟨by decide +kernel, by decide +kernel⟩, by decide +kernel, by decide, by decide +kernel, fun h => by first | rfl | cases h⟩
theorem st_X9_allPlaces : Cond.static yX9_allPlaces ∈ gtbl := (in_g 1037 (by decide +kernel) rfl)
abbrev mX9_usedPlaces : AM := (yX9_usedPlaces, cX9_usedPlaces, 3, some (.int), [], false)
theorem mo_X9_usedPlaces : MOK mX9_usedPlaces 1 := ⟨(in_g 1041 (by decide +kernel) rfl), (in_g 51 (by decide +kernel) rfl), ⟨by decide +kernel, by decide +kernel⟩, by decide +kernel, by decide, by decide +kernel, fun h => by first | rfl | cases h⟩
theorem st_X9_usedPlaces : Cond.static yX9_usedPlaces ∈ gtbl := (in_g 1040 (by decide +kernel) rfl)
abbrev mX9_sparePlaces : AM := (yX9_sparePlaces, cX9_sparePlaces, 3, some (.int), [], false)
theorem mo_X9_sparePlaces : MOK mX9_sparePlaces 1 := ⟨(in_g 1044 (by decide +kernel) rfl), (in_g 51 (by decide +kernel) rfl), ⟨by decide +kernel, by decide +kernel⟩, by decide +kernel, by decide, by decide +kernel, fun h => by first | rfl | cases h⟩
theorem st_X9_sparePlaces : Cond.static yX9_sparePlaces ∈ gtbl := (in_g 1043 (by decide +kernel) rfl)
abbrev mX9_pitchIn : AM := (yX9_pitchIn, cX9_pitchIn, 7, some (.int), [], false)
theorem mo_X9_pitchIn : MOK mX9_pitchIn 3 := ⟨(in_g 1047 (by decide +kernel) rfl), (in_g 51 (by decide +kernel) rfl), ⟨by decide +kernel, by decide +kernel⟩, by decide +kernel, by decide, by decide +kernel, fun h => by first | rfl | cases h⟩
theorem st_X9_pitchIn : Cond.static yX9_pitchIn ∈ gtbl := (in_g 1046 (by decide +kernel) rfl)
abbrev mX9_pitchOn : AM := (yX9_pitchOn, cX9_pitchOn, 5, some (.int), [], false)
theorem mo_X9_pitchOn : MOK mX9_pitchOn 3 := ⟨(in_g 1050 (by decide +kernel) rfl), (in_g 51 (by decide +kernel) rfl), ⟨by decide +kernel, by decide +kernel⟩, by decide +kernel, by decide, by decide +kernel, fun h => by first | rfl | cases h⟩
theorem st_X9_pitchOn : Cond.static yX9_pitchOn ∈ gtbl := (in_g 1049 (by decide +kernel) rfl)
abbrev mX9_takeSpare : AM := (yX9_takeSpare, cX9_takeSpare, 3, none, [], false)
theorem mo_X9_takeSpare : MOK mX9_takeSpare 2 := ⟨(in_g 1053 (by decide +kernel) rfl), (in_g 51 (by decide +kernel) rfl), ⟨by decide +kernel, by decide +kernel⟩, by decide +kernel, by decide, by decide +kernel, fun h => by first | rfl | cases h⟩
theorem st_X9_takeSpare : Cond.static yX9_takeSpare ∈ gtbl := (in_g 1052 (by decide +kernel) rfl)
abbrev mX9_copy : AM := (yX9_copy, cX9_copy, 6, none, [], false)
theorem mo_X9_copy : MOK mX9_copy 5 := ⟨(in_g 1056 (by decide +kernel) rfl), (in_g 51 (by decide +kernel) rfl), ⟨by decide +kernel, by decide +kernel⟩, by decide +kernel, by decide, by decide +kernel, fun h => by first | rfl | cases h⟩
theorem st_X9_copy : Cond.static yX9_copy ∈ gtbl := (in_g 1055 (by decide +kernel) rfl)
abbrev mX9_makeField : AM := (yX9_makeField, cX9_makeField, 5, none, [], false)
theorem mo_X9_makeField : MOK mX9_makeField 2 := ⟨(in_g 1059 (by decide +kernel) rfl), (in_g 51 (by decide +kernel) rfl), ⟨by decide +kernel, by decide +kernel⟩, by decide +kernel, by decide, by decide +kernel, fun h => by first | rfl | cases h⟩
theorem st_X9_makeField : Cond.static yX9_makeField ∈ gtbl := (in_g 1058 (by decide +kernel) rfl)
abbrev mX9_tentAt : AM := (yX9_tentAt, cX9_tentAt, 2, some (.int), [], false)
theorem mo_X9_tentAt : MOK mX9_tentAt 2 := ⟨(in_g 1062 (by decide +kernel) rfl), (in_g 51 (by decide +kernel) rfl), ⟨by decide +kernel, by decide +kernel⟩, by decide +kernel, by decide, by decide +kernel, fun h => by first | rfl | cases h⟩
theorem st_X9_tentAt : Cond.static yX9_tentAt ∈ gtbl := (in_g 1061 (by decide +kernel) rfl)
abbrev mX9_tentPlaces : AM := (yX9_tentPlaces, cX9_tentPlaces, 4, some (.int), [], false)
theorem mo_X9_tentPlaces : MOK mX9_tentPlaces 2 := ⟨(in_g 1065 (by decide +kernel) rfl), (in_g 51 (by decide +kernel) rfl), ⟨by decide +kernel, by decide +kernel⟩, by decide +kernel, by decide, by decide +kernel, fun h => by first | rfl | cases h⟩
theorem st_X9_tentPlaces : Cond.static yX9_tentPlaces ∈ gtbl := (in_g 1064 (by decide +kernel) rfl)
abbrev mX9_readFill : AM := (yX9_readFill, cX9_readFill, 4, none, [], false)
theorem mo_X9_readFill : MOK mX9_readFill 0 := ⟨(in_g 1069 (by decide +kernel) rfl), (in_g 51 (by decide +kernel) rfl), ⟨by decide +kernel, by decide +kernel⟩, by decide +kernel, by decide, by decide +kernel, fun h => by first | rfl | cases h⟩
theorem iv_X9_readFill : Cond.instanceMethod yX9_readFill ∈ gtbl := (in_g 1068 (by decide +kernel) rfl)
theorem se_X9_readFill : Cond.selects yX9_readFill.cls yX9_readFill yX9_readFill ∈ gtbl := (in_g 23 (by decide +kernel) rfl)
abbrev mX9_fillIn : AM := (yX9_fillIn, cX9_fillIn, 6, some (.int), [], false)
theorem mo_X9_fillIn : MOK mX9_fillIn 3 := ⟨(in_g 1072 (by decide +kernel) rfl), (in_g 51 (by decide +kernel) rfl), ⟨by decide +kernel, by decide +kernel⟩, by decide +kernel, by decide, by decide +kernel, fun h => by first | rfl | cases h⟩
theorem st_X9_fillIn : Cond.static yX9_fillIn ∈ gtbl := (in_g 1071 (by decide +kernel) rfl)
abbrev mX9_readFrame : AM := (yX9_readFrame, cX9_readFrame, 5, none, [], false)
theorem mo_X9_readFrame : MOK mX9_readFrame 2 := ⟨(in_g 1076 (by decide +kernel) rfl), (in_g 51 (by decide +kernel) rfl), ⟨by decide +kernel, by decide +kernel⟩, by decide +kernel, by decide, by decide +kernel, fun h => by first | rfl | cases h⟩
theorem iv_X9_readFrame : Cond.instanceMethod yX9_readFrame ∈ gtbl := (in_g 1075 (by decide +kernel) rfl)
theorem se_X9_readFrame : Cond.selects yX9_readFrame.cls yX9_readFrame yX9_readFrame ∈ gtbl := (in_g 24 (by decide +kernel) rfl)
abbrev mX9_enterIn : AM := (yX9_enterIn, cX9_enterIn, 1, none, [], false)
theorem mo_X9_enterIn : MOK mX9_enterIn 1 := ⟨(in_g 1079 (by decide +kernel) rfl), (in_g 51 (by decide +kernel) rfl), ⟨by decide +kernel, by decide +kernel⟩, by decide +kernel, by decide, by decide +kernel, fun h => by first | rfl | cases h⟩
theorem st_X9_enterIn : Cond.static yX9_enterIn ∈ gtbl := (in_g 1078 (by decide +kernel) rfl)
abbrev mX9_frameAt : AM := (yX9_frameAt, cX9_frameAt, 2, some (.int), [], false)
theorem mo_X9_frameAt : MOK mX9_frameAt 2 := ⟨(in_g 1082 (by decide +kernel) rfl), (in_g 51 (by decide +kernel) rfl), ⟨by decide +kernel, by decide +kernel⟩, by decide +kernel, by decide, by decide +kernel, fun h => by first | rfl | cases h⟩
theorem st_X9_frameAt : Cond.static yX9_frameAt ∈ gtbl := (in_g 1081 (by decide +kernel) rfl)
abbrev mX9_jumpIn : AM := (yX9_jumpIn, cX9_jumpIn, 3, some (.int), [], false)
theorem mo_X9_jumpIn : MOK mX9_jumpIn 2 := ⟨(in_g 1085 (by decide +kernel) rfl), (in_g 51 (by decide +kernel) rfl), ⟨by decide +kernel, by decide +kernel⟩, by decide +kernel, by decide, by decide +kernel, fun h => by first | rfl | cases h⟩
theorem st_X9_jumpIn : Cond.static yX9_jumpIn ∈ gtbl := (in_g 1084 (by decide +kernel) rfl)
abbrev mX9_strikeBehind : AM := (yX9_strikeBehind, cX9_strikeBehind, 3, some (.int), [], false)
theorem mo_X9_strikeBehind : MOK mX9_strikeBehind 2 := ⟨(in_g 1088 (by decide +kernel) rfl), (in_g 51 (by decide +kernel) rfl), ⟨by decide +kernel, by decide +kernel⟩, by decide +kernel, by decide, by decide +kernel, fun h => by first | rfl | cases h⟩
theorem st_X9_strikeBehind : Cond.static yX9_strikeBehind ∈ gtbl := (in_g 1087 (by decide +kernel) rfl)
abbrev mX9_strike : AM := (yX9_strike, cX9_strike, 5, none, [], false)
theorem mo_X9_strike : MOK mX9_strike 1 := ⟨(in_g 1091 (by decide +kernel) rfl), (in_g 51 (by decide +kernel) rfl), ⟨by decide +kernel, by decide +kernel⟩, by decide +kernel, by decide, by decide +kernel, fun h => by first | rfl | cases h⟩
theorem st_X9_strike : Cond.static yX9_strike ∈ gtbl := (in_g 1090 (by decide +kernel) rfl)
abbrev mX9_layEnds : AM := (yX9_layEnds, cX9_layEnds, 2, none, [], false)
theorem mo_X9_layEnds : MOK mX9_layEnds 1 := ⟨(in_g 1094 (by decide +kernel) rfl), (in_g 51 (by decide +kernel) rfl), ⟨by decide +kernel, by decide +kernel⟩, by decide +kernel, by decide, by decide +kernel, fun h => by first | rfl | cases h⟩
theorem st_X9_layEnds : Cond.static yX9_layEnds ∈ gtbl := (in_g 1093 (by decide +kernel) rfl)
abbrev mX9_greatestSpare : AM := (yX9_greatestSpare, cX9_greatestSpare, 3, some (.int), [], false)
theorem mo_X9_greatestSpare : MOK mX9_greatestSpare 1 := ⟨(in_g 1097 (by decide +kernel) rfl), (in_g 51 (by decide +kernel) rfl), ⟨by decide +kernel, by decide +kernel⟩, by decide +kernel, by decide, by decide +kernel, fun h => by first | rfl | cases h⟩
theorem st_X9_greatestSpare : Cond.static yX9_greatestSpare ∈ gtbl := (in_g 1096 (by decide +kernel) rfl)
abbrev mX9_giveUp : AM := (yX9_giveUp, cX9_giveUp, 6, none, [], false)
theorem mo_X9_giveUp : MOK mX9_giveUp 2 := ⟨(in_g 1100 (by decide +kernel) rfl), (in_g 51 (by decide +kernel) rfl), ⟨by decide +kernel, by decide +kernel⟩, by decide +kernel, by decide, by decide +kernel, fun h => by first | rfl | cases h⟩
theorem st_X9_giveUp : Cond.static yX9_giveUp ∈ gtbl := (in_g 1099 (by decide +kernel) rfl)
abbrev mX9_leaveIn : AM := (yX9_leaveIn, cX9_leaveIn, 2, some (.int), [], false)
theorem mo_X9_leaveIn : MOK mX9_leaveIn 1 := ⟨(in_g 1103 (by decide +kernel) rfl), (in_g 51 (by decide +kernel) rfl), ⟨by decide +kernel, by decide +kernel⟩, by decide +kernel, by decide, by decide +kernel, fun h => by first | rfl | cases h⟩
theorem st_X9_leaveIn : Cond.static yX9_leaveIn ∈ gtbl := (in_g 1102 (by decide +kernel) rfl)
abbrev mX9_load : AM := (yX9_load, cX9_load, 1, some (.int), [], false)
theorem mo_X9_load : MOK mX9_load 0 := ⟨(in_g 1107 (by decide +kernel) rfl), (in_g 51 (by decide +kernel) rfl), ⟨by decide +kernel, by decide +kernel⟩, by decide +kernel, by decide, by decide +kernel, fun h => by first | rfl | cases h⟩
theorem iv_X9_load : Cond.instanceMethod yX9_load ∈ gtbl := (in_g 1105 (by decide +kernel) rfl)
theorem se_X9_load : Cond.selects yX9_load.cls yX9_load yX9_load ∈ gtbl := (in_g 1106 (by decide +kernel) rfl)
abbrev mX9_about : AM := (yX9_about, cX9_about, 2, some (.int), [], false)
theorem mo_X9_about : MOK mX9_about 1 := ⟨(in_g 1111 (by decide +kernel) rfl), (in_g 51 (by decide +kernel) rfl), ⟨by decide +kernel, by decide +kernel⟩, by decide +kernel, by decide, by decide +kernel, fun h => by first | rfl | cases h⟩
theorem iv_X9_about : Cond.instanceMethod yX9_about ∈ gtbl := (in_g 1109 (by decide +kernel) rfl)
theorem se_X9_about : Cond.selects yX9_about.cls yX9_about yX9_about ∈ gtbl := (in_g 1110 (by decide +kernel) rfl)
abbrev mX9_gaps : AM := (yX9_gaps, cX9_gaps, 5, some (.int), [], false)
theorem mo_X9_gaps : MOK mX9_gaps 1 := ⟨(in_g 1115 (by decide +kernel) rfl), (in_g 51 (by decide +kernel) rfl), ⟨by decide +kernel, by decide +kernel⟩, by decide +kernel, by decide, by decide +kernel, fun h => by first | rfl | cases h⟩
theorem st_X9_gaps : Cond.static yX9_gaps ∈ gtbl := (in_g 1114 (by decide +kernel) rfl)
abbrev mX9_onField : AM := (yX9_onField, cX9_onField, 4, some (.int), [], false)
theorem mo_X9_onField : MOK mX9_onField 2 := ⟨(in_g 1118 (by decide +kernel) rfl), (in_g 51 (by decide +kernel) rfl), ⟨by decide +kernel, by decide +kernel⟩, by decide +kernel, by decide, by decide +kernel, fun h => by first | rfl | cases h⟩
theorem st_X9_onField : Cond.static yX9_onField ∈ gtbl := (in_g 1117 (by decide +kernel) rfl)
abbrev mX9_tent : AM := (yX9_tent, cX9_tent, 3, some (.int), [], false)
theorem mo_X9_tent : MOK mX9_tent 2 := ⟨(in_g 1122 (by decide +kernel) rfl), (in_g 51 (by decide +kernel) rfl), ⟨by decide +kernel, by decide +kernel⟩, by decide +kernel, by decide, by decide +kernel, fun h => by first | rfl | cases h⟩
theorem iv_X9_tent : Cond.instanceMethod yX9_tent ∈ gtbl := (in_g 1120 (by decide +kernel) rfl)
theorem se_X9_tent : Cond.selects yX9_tent.cls yX9_tent yX9_tent ∈ gtbl := (in_g 1121 (by decide +kernel) rfl)
abbrev mX9_isTent : AM := (yX9_isTent, cX9_isTent, 2, some (.boolean), [], false)
theorem mo_X9_isTent : MOK mX9_isTent 1 := ⟨(in_g 1126 (by decide +kernel) rfl), (in_g 51 (by decide +kernel) rfl), ⟨by decide +kernel, by decide +kernel⟩, by decide +kernel, by decide, by decide +kernel, fun h => by first | rfl | cases h⟩
theorem iv_X9_isTent : Cond.instanceMethod yX9_isTent ∈ gtbl := (in_g 1125 (by decide +kernel) rfl)
theorem se_X9_isTent : Cond.selects yX9_isTent.cls yX9_isTent yX9_isTent ∈ gtbl := (in_g 25 (by decide +kernel) rfl)
abbrev mX9_frameOf : AM := (yX9_frameOf, cX9_frameOf, 4, some (.int), [], false)
theorem mo_X9_frameOf : MOK mX9_frameOf 1 := ⟨(in_g 1131 (by decide +kernel) rfl), (in_g 51 (by decide +kernel) rfl), ⟨by decide +kernel, by decide +kernel⟩, by decide +kernel, by decide, by decide +kernel, fun h => by first | rfl | cases h⟩
theorem iv_X9_frameOf : Cond.instanceMethod yX9_frameOf ∈ gtbl := (in_g 1130 (by decide +kernel) rfl)
theorem se_X9_frameOf : Cond.selects yX9_frameOf.cls yX9_frameOf yX9_frameOf ∈ gtbl := (in_g 26 (by decide +kernel) rfl)
abbrev mX9_field : AM := (yX9_field, cX9_field, 3, some (.int), [], false)
theorem mo_X9_field : MOK mX9_field 2 := ⟨(in_g 1135 (by decide +kernel) rfl), (in_g 51 (by decide +kernel) rfl), ⟨by decide +kernel, by decide +kernel⟩, by decide +kernel, by decide, by decide +kernel, fun h => by first | rfl | cases h⟩
theorem iv_X9_field : Cond.instanceMethod yX9_field ∈ gtbl := (in_g 1133 (by decide +kernel) rfl)
theorem se_X9_field : Cond.selects yX9_field.cls yX9_field yX9_field ∈ gtbl := (in_g 1134 (by decide +kernel) rfl)
abbrev mX9_isField : AM := (yX9_isField, cX9_isField, 2, some (.boolean), [], false)
theorem mo_X9_isField : MOK mX9_isField 1 := ⟨(in_g 1139 (by decide +kernel) rfl), (in_g 51 (by decide +kernel) rfl), ⟨by decide +kernel, by decide +kernel⟩, by decide +kernel, by decide, by decide +kernel, fun h => by first | rfl | cases h⟩
theorem iv_X9_isField : Cond.instanceMethod yX9_isField ∈ gtbl := (in_g 1138 (by decide +kernel) rfl)
theorem se_X9_isField : Cond.selects yX9_isField.cls yX9_isField yX9_isField ∈ gtbl := (in_g 27 (by decide +kernel) rfl)
abbrev mX9_tentsOn : AM := (yX9_tentsOn, cX9_tentsOn, 4, some (.int), [], false)
theorem mo_X9_tentsOn : MOK mX9_tentsOn 1 := ⟨(in_g 1143 (by decide +kernel) rfl), (in_g 51 (by decide +kernel) rfl), ⟨by decide +kernel, by decide +kernel⟩, by decide +kernel, by decide, by decide +kernel, fun h => by first | rfl | cases h⟩
theorem iv_X9_tentsOn : Cond.instanceMethod yX9_tentsOn ∈ gtbl := (in_g 1142 (by decide +kernel) rfl)
theorem se_X9_tentsOn : Cond.selects yX9_tentsOn.cls yX9_tentsOn yX9_tentsOn ∈ gtbl := (in_g 28 (by decide +kernel) rfl)
abbrev mX9_poisonOn : AM := (yX9_poisonOn, cX9_poisonOn, 4, some (.int), [], false)
theorem mo_X9_poisonOn : MOK mX9_poisonOn 1 := ⟨(in_g 1147 (by decide +kernel) rfl), (in_g 51 (by decide +kernel) rfl), ⟨by decide +kernel, by decide +kernel⟩, by decide +kernel, by decide, by decide +kernel, fun h => by first | rfl | cases h⟩
theorem iv_X9_poisonOn : Cond.instanceMethod yX9_poisonOn ∈ gtbl := (in_g 1146 (by decide +kernel) rfl)
theorem se_X9_poisonOn : Cond.selects yX9_poisonOn.cls yX9_poisonOn yX9_poisonOn ∈ gtbl := (in_g 29 (by decide +kernel) rfl)
abbrev mX9_place : AM := (yX9_place, cX9_place, 4, some (.int), [], false)
theorem mo_X9_place : MOK mX9_place 2 := ⟨(in_g 1151 (by decide +kernel) rfl), (in_g 51 (by decide +kernel) rfl), ⟨by decide +kernel, by decide +kernel⟩, by decide +kernel, by decide, by decide +kernel, fun h => by first | rfl | cases h⟩
theorem iv_X9_place : Cond.instanceMethod yX9_place ∈ gtbl := (in_g 1149 (by decide +kernel) rfl)
theorem se_X9_place : Cond.selects yX9_place.cls yX9_place yX9_place ∈ gtbl := (in_g 1150 (by decide +kernel) rfl)
abbrev mX9_spare : AM := (yX9_spare, cX9_spare, 5, some (.int), [], false)
theorem mo_X9_spare : MOK mX9_spare 1 := ⟨(in_g 1155 (by decide +kernel) rfl), (in_g 51 (by decide +kernel) rfl), ⟨by decide +kernel, by decide +kernel⟩, by decide +kernel, by decide, by decide +kernel, fun h => by first | rfl | cases h⟩
theorem iv_X9_spare : Cond.instanceMethod yX9_spare ∈ gtbl := (in_g 1153 (by decide +kernel) rfl)
theorem se_X9_spare : Cond.selects yX9_spare.cls yX9_spare yX9_spare ∈ gtbl := (in_g 1154 (by decide +kernel) rfl)
abbrev mX9_frame : AM := (yX9_frame, cX9_frame, 3, some (.int), [], false)
theorem mo_X9_frame : MOK mX9_frame 2 := ⟨(in_g 1159 (by decide +kernel) rfl), (in_g 51 (by decide +kernel) rfl), ⟨by decide +kernel, by decide +kernel⟩, by decide +kernel, by decide, by decide +kernel, fun h => by first | rfl | cases h⟩
theorem iv_X9_frame : Cond.instanceMethod yX9_frame ∈ gtbl := (in_g 1157 (by decide +kernel) rfl)
theorem se_X9_frame : Cond.selects yX9_frame.cls yX9_frame yX9_frame ∈ gtbl := (in_g 1158 (by decide +kernel) rfl)
abbrev mX9_isFrame : AM := (yX9_isFrame, cX9_isFrame, 2, some (.boolean), [], false)
theorem mo_X9_isFrame : MOK mX9_isFrame 1 := ⟨(in_g 1163 (by decide +kernel) rfl), (in_g 51 (by decide +kernel) rfl), ⟨by decide +kernel, by decide +kernel⟩, by decide +kernel, by decide, by decide +kernel, fun h => by first | rfl | cases h⟩
theorem iv_X9_isFrame : Cond.instanceMethod yX9_isFrame ∈ gtbl := (in_g 1162 (by decide +kernel) rfl)
theorem se_X9_isFrame : Cond.selects yX9_isFrame.cls yX9_isFrame yX9_isFrame ∈ gtbl := (in_g 30 (by decide +kernel) rfl)
abbrev mX9_pitch : AM := (yX9_pitch, cX9_pitch, 4, some (.int), [], false)
theorem mo_X9_pitch : MOK mX9_pitch 2 := ⟨(in_g 1168 (by decide +kernel) rfl), (in_g 51 (by decide +kernel) rfl), ⟨by decide +kernel, by decide +kernel⟩, by decide +kernel, by decide, by decide +kernel, fun h => by first | rfl | cases h⟩
theorem iv_X9_pitch : Cond.instanceMethod yX9_pitch ∈ gtbl := (in_g 1166 (by decide +kernel) rfl)
theorem se_X9_pitch : Cond.selects yX9_pitch.cls yX9_pitch yX9_pitch ∈ gtbl := (in_g 1167 (by decide +kernel) rfl)
abbrev mX9_isTentSize : AM := (yX9_isTentSize, cX9_isTentSize, 1, some (.boolean), [], false)
theorem mo_X9_isTentSize : MOK mX9_isTentSize 1 := ⟨(in_g 1171 (by decide +kernel) rfl), (in_g 51 (by decide +kernel) rfl), ⟨by decide +kernel, by decide +kernel⟩, by decide +kernel, by decide, by decide +kernel, fun h => by first | rfl | cases h⟩
theorem st_X9_isTentSize : Cond.static yX9_isTentSize ∈ gtbl := (in_g 1170 (by decide +kernel) rfl)
abbrev mX9_remember : AM := (yX9_remember, cX9_remember, 1, none, [], false)
theorem mo_X9_remember : MOK mX9_remember 0 := ⟨(in_g 1176 (by decide +kernel) rfl), (in_g 51 (by decide +kernel) rfl), ⟨by decide +kernel, by decide +kernel⟩, by decide +kernel, by decide, by decide +kernel, fun h => by first | rfl | cases h⟩
theorem iv_X9_remember : Cond.instanceMethod yX9_remember ∈ gtbl := (in_g 1175 (by decide +kernel) rfl)
theorem se_X9_remember : Cond.selects yX9_remember.cls yX9_remember yX9_remember ∈ gtbl := (in_g 31 (by decide +kernel) rfl)
abbrev mX9_fill : AM := (yX9_fill, cX9_fill, 3, some (.int), [], false)
theorem mo_X9_fill : MOK mX9_fill 2 := ⟨(in_g 1180 (by decide +kernel) rfl), (in_g 51 (by decide +kernel) rfl), ⟨by decide +kernel, by decide +kernel⟩, by decide +kernel, by decide, by decide +kernel, fun h => by first | rfl | cases h⟩
theorem iv_X9_fill : Cond.instanceMethod yX9_fill ∈ gtbl := (in_g 1178 (by decide +kernel) rfl)
theorem se_X9_fill : Cond.selects yX9_fill.cls yX9_fill yX9_fill ∈ gtbl := (in_g 1179 (by decide +kernel) rfl)
abbrev mX9_enter : AM := (yX9_enter, cX9_enter, 1, some (.int), [], false)
theorem mo_X9_enter : MOK mX9_enter 0 := ⟨(in_g 1185 (by decide +kernel) rfl), (in_g 51 (by decide +kernel) rfl), ⟨by decide +kernel, by decide +kernel⟩, by decide +kernel, by decide, by decide +kernel, fun h => by first | rfl | cases h⟩
theorem iv_X9_enter : Cond.instanceMethod yX9_enter ∈ gtbl := (in_g 1183 (by decide +kernel) rfl)
theorem se_X9_enter : Cond.selects yX9_enter.cls yX9_enter yX9_enter ∈ gtbl := (in_g 1184 (by decide +kernel) rfl)
abbrev mX9_leave : AM := (yX9_leave, cX9_leave, 1, some (.int), [], false)
theorem mo_X9_leave : MOK mX9_leave 0 := ⟨(in_g 1189 (by decide +kernel) rfl), (in_g 51 (by decide +kernel) rfl), ⟨by decide +kernel, by decide +kernel⟩, by decide +kernel, by decide, by decide +kernel, fun h => by first | rfl | cases h⟩
theorem iv_X9_leave : Cond.instanceMethod yX9_leave ∈ gtbl := (in_g 1187 (by decide +kernel) rfl)
theorem se_X9_leave : Cond.selects yX9_leave.cls yX9_leave yX9_leave ∈ gtbl := (in_g 1188 (by decide +kernel) rfl)
abbrev mX9_jump : AM := (yX9_jump, cX9_jump, 2, some (.int), [], false)
theorem mo_X9_jump : MOK mX9_jump 1 := ⟨(in_g 1193 (by decide +kernel) rfl), (in_g 51 (by decide +kernel) rfl), ⟨by decide +kernel, by decide +kernel⟩, by decide +kernel, by decide, by decide +kernel, fun h => by first | rfl | cases h⟩
theorem iv_X9_jump : Cond.instanceMethod yX9_jump ∈ gtbl := (in_g 1191 (by decide +kernel) rfl)
theorem se_X9_jump : Cond.selects yX9_jump.cls yX9_jump yX9_jump ∈ gtbl := (in_g 1192 (by decide +kernel) rfl)
abbrev mX9_set : AM := (yX9_set, cX9_set, 5, some (.int), [], false)
theorem mo_X9_set : MOK mX9_set 2 := ⟨(in_g 1197 (by decide +kernel) rfl), (in_g 51 (by decide +kernel) rfl), ⟨by decide +kernel, by decide +kernel⟩, by decide +kernel, by decide, by decide +kernel, fun h => by first | rfl | cases h⟩
theorem iv_X9_set : Cond.instanceMethod yX9_set ∈ gtbl := (in_g 1195 (by decide +kernel) rfl)
theorem se_X9_set : Cond.selects yX9_set.cls yX9_set yX9_set ∈ gtbl := (in_g 1196 (by decide +kernel) rfl)
abbrev mX9_undo : AM := (yX9_undo, cX9_undo, 1, some (.int), [], false)
theorem mo_X9_undo : MOK mX9_undo 0 := ⟨(in_g 1204 (by decide +kernel) rfl), (in_g 51 (by decide +kernel) rfl), ⟨by decide +kernel, by decide +kernel⟩, by decide +kernel, by decide, by decide +kernel, fun h => by first | rfl | cases h⟩
theorem iv_X9_undo : Cond.instanceMethod yX9_undo ∈ gtbl := (in_g 1202 (by decide +kernel) rfl)
theorem se_X9_undo : Cond.selects yX9_undo.cls yX9_undo yX9_undo ∈ gtbl := (in_g 1203 (by decide +kernel) rfl)
abbrev mX9_where : AM := (yX9_where, cX9_where, 4, some (.int), [], false)
theorem mo_X9_where : MOK mX9_where 2 := ⟨(in_g 1208 (by decide +kernel) rfl), (in_g 51 (by decide +kernel) rfl), ⟨by decide +kernel, by decide +kernel⟩, by decide +kernel, by decide, by decide +kernel, fun h => by first | rfl | cases h⟩
theorem iv_X9_where : Cond.instanceMethod yX9_where ∈ gtbl := (in_g 1206 (by decide +kernel) rfl)
theorem se_X9_where : Cond.selects yX9_where.cls yX9_where yX9_where ∈ gtbl := (in_g 1207 (by decide +kernel) rfl)
abbrev mX9_givenUp : AM := (yX9_givenUp, cX9_givenUp, 2, some (.int), [], false)
theorem mo_X9_givenUp : MOK mX9_givenUp 1 := ⟨(in_g 1212 (by decide +kernel) rfl), (in_g 51 (by decide +kernel) rfl), ⟨by decide +kernel, by decide +kernel⟩, by decide +kernel, by decide, by decide +kernel, fun h => by first | rfl | cases h⟩
theorem iv_X9_givenUp : Cond.instanceMethod yX9_givenUp ∈ gtbl := (in_g 1210 (by decide +kernel) rfl)
theorem se_X9_givenUp : Cond.selects yX9_givenUp.cls yX9_givenUp yX9_givenUp ∈ gtbl := (in_g 1211 (by decide +kernel) rfl)
abbrev mX9_begin : AM := (yX9_begin, cX9_begin, 1, none, [], false)
theorem mo_X9_begin : MOK mX9_begin 0 := ⟨(in_g 1216 (by decide +kernel) rfl), (in_g 51 (by decide +kernel) rfl), ⟨by decide +kernel, by decide +kernel⟩, by decide +kernel, by decide, by decide +kernel, fun h => by first | rfl | cases h⟩
theorem iv_X9_begin : Cond.instanceMethod yX9_begin ∈ gtbl := (in_g 1215 (by decide +kernel) rfl)
theorem se_X9_begin : Cond.selects yX9_begin.cls yX9_begin yX9_begin ∈ gtbl := (in_g 32 (by decide +kernel) rfl)
abbrev mX9_bestSize : AM := (yX9_bestSize, cX9_bestSize, 5, some (.int), [], false)
theorem mo_X9_bestSize : MOK mX9_bestSize 0 := ⟨(in_g 1220 (by decide +kernel) rfl), (in_g 51 (by decide +kernel) rfl), ⟨by decide +kernel, by decide +kernel⟩, by decide +kernel, by decide, by decide +kernel, fun h => by first | rfl | cases h⟩
theorem iv_X9_bestSize : Cond.instanceMethod yX9_bestSize ∈ gtbl := (in_g 1218 (by decide +kernel) rfl)
theorem se_X9_bestSize : Cond.selects yX9_bestSize.cls yX9_bestSize yX9_bestSize ∈ gtbl := (in_g 1219 (by decide +kernel) rfl)
abbrev mX9_needs : AM := (yX9_needs, cX9_needs, 3, some (.int), [], false)
theorem mo_X9_needs : MOK mX9_needs 1 := ⟨(in_g 1224 (by decide +kernel) rfl), (in_g 51 (by decide +kernel) rfl), ⟨by decide +kernel, by decide +kernel⟩, by decide +kernel, by decide, by decide +kernel, fun h => by first | rfl | cases h⟩
theorem iv_X9_needs : Cond.instanceMethod yX9_needs ∈ gtbl := (in_g 1223 (by decide +kernel) rfl)
theorem se_X9_needs : Cond.selects yX9_needs.cls yX9_needs yX9_needs ∈ gtbl := (in_g 33 (by decide +kernel) rfl)
abbrev mX9_more : AM := (yX9_more, cX9_more, 5, some (.int), [], false)
theorem mo_X9_more : MOK mX9_more 2 := ⟨(in_g 1228 (by decide +kernel) rfl), (in_g 51 (by decide +kernel) rfl), ⟨by decide +kernel, by decide +kernel⟩, by decide +kernel, by decide, by decide +kernel, fun h => by first | rfl | cases h⟩
theorem iv_X9_more : Cond.instanceMethod yX9_more ∈ gtbl := (in_g 1226 (by decide +kernel) rfl)
theorem se_X9_more : Cond.selects yX9_more.cls yX9_more yX9_more ∈ gtbl := (in_g 1227 (by decide +kernel) rfl)
abbrev mX9_runScript : AM := (yX9_runScript, cX9_runScript, 6, some (.int), [], false)
theorem mo_X9_runScript : MOK mX9_runScript 2 := ⟨(in_g 1232 (by decide +kernel) rfl), (in_g 51 (by decide +kernel) rfl), ⟨by decide +kernel, by decide +kernel⟩, by decide +kernel, by decide, by decide +kernel, fun h => by first | rfl | cases h⟩
theorem iv_X9_runScript : Cond.instanceMethod yX9_runScript ∈ gtbl := (in_g 1230 (by decide +kernel) rfl)
theorem se_X9_runScript : Cond.selects yX9_runScript.cls yX9_runScript yX9_runScript ∈ gtbl := (in_g 1231 (by decide +kernel) rfl)
abbrev mX9_tenTo : AM := (yX9_tenTo, cX9_tenTo, 4, some (.long), [], false)
theorem mo_X9_tenTo : MOK mX9_tenTo 1 := ⟨(in_g 1236 (by decide +kernel) rfl), (in_g 51 (by decide +kernel) rfl), ⟨by decide +kernel, by decide +kernel⟩, by decide +kernel, by decide, by decide +kernel, fun h => by first | rfl | cases h⟩
theorem st_X9_tenTo : Cond.static yX9_tenTo ∈ gtbl := (in_g 1235 (by decide +kernel) rfl)
abbrev mX9_does : AM := (yX9_does, cX9_does, 7, some (.boolean), [], false)
theorem mo_X9_does : MOK mX9_does 1 := ⟨(in_g 1242 (by decide +kernel) rfl), (in_g 51 (by decide +kernel) rfl), ⟨by decide +kernel, by decide +kernel⟩, by decide +kernel, by decide, by decide +kernel, fun h => by first | rfl | cases h⟩
theorem iv_X9_does : Cond.instanceMethod yX9_does ∈ gtbl := (in_g 1241 (by decide +kernel) rfl)
theorem se_X9_does : Cond.selects yX9_does.cls yX9_does yX9_does ∈ gtbl := (in_g 34 (by decide +kernel) rfl)
abbrev mX9_pitches : AM := (yX9_pitches, cX9_pitches, 3, some (.boolean), [], false)
theorem mo_X9_pitches : MOK mX9_pitches 2 := ⟨(in_g 1246 (by decide +kernel) rfl), (in_g 51 (by decide +kernel) rfl), ⟨by decide +kernel, by decide +kernel⟩, by decide +kernel, by decide, by decide +kernel, fun h => by first | rfl | cases h⟩
theorem iv_X9_pitches : Cond.instanceMethod yX9_pitches ∈ gtbl := (in_g 1245 (by decide +kernel) rfl)
theorem se_X9_pitches : Cond.selects yX9_pitches.cls yX9_pitches yX9_pitches ∈ gtbl := (in_g 35 (by decide +kernel) rfl)
abbrev mX9_enters : AM := (yX9_enters, cX9_enters, 1, some (.boolean), [], false)
theorem mo_X9_enters : MOK mX9_enters 0 := ⟨(in_g 1250 (by decide +kernel) rfl), (in_g 51 (by decide +kernel) rfl), ⟨by decide +kernel, by decide +kernel⟩, by decide +kernel, by decide, by decide +kernel, fun h => by first | rfl | cases h⟩
theorem iv_X9_enters : Cond.instanceMethod yX9_enters ∈ gtbl := (in_g 1249 (by decide +kernel) rfl)
theorem se_X9_enters : Cond.selects yX9_enters.cls yX9_enters yX9_enters ∈ gtbl := (in_g 36 (by decide +kernel) rfl)
abbrev mX9_leaves : AM := (yX9_leaves, cX9_leaves, 1, some (.boolean), [], false)
theorem mo_X9_leaves : MOK mX9_leaves 0 := ⟨(in_g 1254 (by decide +kernel) rfl), (in_g 51 (by decide +kernel) rfl), ⟨by decide +kernel, by decide +kernel⟩, by decide +kernel, by decide, by decide +kernel, fun h => by first | rfl | cases h⟩
theorem iv_X9_leaves : Cond.instanceMethod yX9_leaves ∈ gtbl := (in_g 1253 (by decide +kernel) rfl)
theorem se_X9_leaves : Cond.selects yX9_leaves.cls yX9_leaves yX9_leaves ∈ gtbl := (in_g 37 (by decide +kernel) rfl)
abbrev mX9_jumps : AM := (yX9_jumps, cX9_jumps, 2, some (.boolean), [], false)
theorem mo_X9_jumps : MOK mX9_jumps 1 := ⟨(in_g 1258 (by decide +kernel) rfl), (in_g 51 (by decide +kernel) rfl), ⟨by decide +kernel, by decide +kernel⟩, by decide +kernel, by decide, by decide +kernel, fun h => by first | rfl | cases h⟩
theorem iv_X9_jumps : Cond.instanceMethod yX9_jumps ∈ gtbl := (in_g 1257 (by decide +kernel) rfl)
theorem se_X9_jumps : Cond.selects yX9_jumps.cls yX9_jumps yX9_jumps ∈ gtbl := (in_g 38 (by decide +kernel) rfl)
abbrev mX9_simulate : AM := (yX9_simulate, cX9_simulate, 7, some (.int), [], false)
theorem mo_X9_simulate : MOK mX9_simulate 2 := ⟨(in_g 1262 (by decide +kernel) rfl), (in_g 51 (by decide +kernel) rfl), ⟨by decide +kernel, by decide +kernel⟩, by decide +kernel, by decide, by decide +kernel, fun h => by first | rfl | cases h⟩
theorem iv_X9_simulate : Cond.instanceMethod yX9_simulate ∈ gtbl := (in_g 1260 (by decide +kernel) rfl)
theorem se_X9_simulate : Cond.selects yX9_simulate.cls yX9_simulate yX9_simulate ∈ gtbl := (in_g 1261 (by decide +kernel) rfl)
abbrev mX9_stir : AM := (yX9_stir, cX9_stir, 2, none, [], false)
theorem mo_X9_stir : MOK mX9_stir 1 := ⟨(in_g 1268 (by decide +kernel) rfl), (in_g 51 (by decide +kernel) rfl), ⟨by decide +kernel, by decide +kernel⟩, by decide +kernel, by decide, by decide +kernel, fun h => by first | rfl | cases h⟩
theorem iv_X9_stir : Cond.instanceMethod yX9_stir ∈ gtbl := (in_g 1267 (by decide +kernel) rfl)
theorem se_X9_stir : Cond.selects yX9_stir.cls yX9_stir yX9_stir ∈ gtbl := (in_g 39 (by decide +kernel) rfl)
abbrev mX9_save : AM := (yX9_save, cX9_save, 2, some (.int), [], false)
theorem mo_X9_save : MOK mX9_save 1 := ⟨(in_g 1272 (by decide +kernel) rfl), (in_g 51 (by decide +kernel) rfl), ⟨by decide +kernel, by decide +kernel⟩, by decide +kernel, by decide, by decide +kernel, fun h => by first | rfl | cases h⟩
theorem iv_X9_save : Cond.instanceMethod yX9_save ∈ gtbl := (in_g 1270 (by decide +kernel) rfl)
theorem se_X9_save : Cond.selects yX9_save.cls yX9_save yX9_save ∈ gtbl := (in_g 1271 (by decide +kernel) rfl)
abbrev mX9_restore : AM := (yX9_restore, cX9_restore, 2, some (.int), [], false)
theorem mo_X9_restore : MOK mX9_restore 1 := ⟨(in_g 1276 (by decide +kernel) rfl), (in_g 51 (by decide +kernel) rfl), ⟨by decide +kernel, by decide +kernel⟩, by decide +kernel, by decide, by decide +kernel, fun h => by first | rfl | cases h⟩
theorem iv_X9_restore : Cond.instanceMethod yX9_restore ∈ gtbl := (in_g 1274 (by decide +kernel) rfl)
theorem se_X9_restore : Cond.selects yX9_restore.cls yX9_restore yX9_restore ∈ gtbl := (in_g 1275 (by decide +kernel) rfl)
abbrev mL_law : AM := (yL_law, cL_law, 7, some (.boolean), [], false)
theorem lk_L_86 : LK RL 86 yX8_init := Or.inl (in_g 61 (by decide +kernel) rfl)
theorem lg_L_86 : Cond.methodLink RL 86 yX8_init ∈ gtbl := (in_g 61 (by decide +kernel) rfl)
theorem lk_X8_9 : LK RX8 9 yX0_init := Or.inr ⟨"TentCamp", List.mem_of_getElem? (i := 69) (by decide +kernel)⟩
theorem lk_X0_23 : LK RX0 23 yX4_init := Or.inr ⟨"TentCamp", List.mem_of_getElem? (i := 75) (by decide +kernel)⟩
theorem lk_X0_32 : LK RX0 32 yX6_init := Or.inr ⟨"TentCamp", List.mem_of_getElem? (i := 89) (by decide +kernel)⟩
theorem lk_X6_11 : LK RX6 11 yX4_init := Or.inr ⟨"TentCamp", List.mem_of_getElem? (i := 94) (by decide +kernel)⟩
theorem lk_X0_39 : LK RX0 39 yX2_init := Or.inr ⟨"TentCamp", List.mem_of_getElem? (i := 123) (by decide +kernel)⟩
theorem lk_X2_11 : LK RX2 11 yX4_init := Or.inr ⟨"TentCamp", List.mem_of_getElem? (i := 128) (by decide +kernel)⟩
theorem lk_X0_46 : LK RX0 46 yX1_init := Or.inr ⟨"TentCamp", List.mem_of_getElem? (i := 147) (by decide +kernel)⟩
theorem lk_X1_11 : LK RX1 11 yX4_init := Or.inr ⟨"TentCamp", List.mem_of_getElem? (i := 152) (by decide +kernel)⟩
theorem lk_X8_21 : LK RX8 21 yX3_init := Or.inr ⟨"TentCamp", List.mem_of_getElem? (i := 230) (by decide +kernel)⟩
theorem lk_X3_11 : LK RX3 11 yX5_init := Or.inr ⟨"TentCamp", List.mem_of_getElem? (i := 236) (by decide +kernel)⟩
theorem lk_X5_21 : LK RX5 21 yX0_init := Or.inr ⟨"TentCamp", List.mem_of_getElem? (i := 243) (by decide +kernel)⟩
theorem lk_X8_28 : LK RX8 28 yX7_init := Or.inr ⟨"TentCamp", List.mem_of_getElem? (i := 261) (by decide +kernel)⟩
theorem lk_X7_11 : LK RX7 11 yX4_init := Or.inr ⟨"TentCamp", List.mem_of_getElem? (i := 266) (by decide +kernel)⟩
theorem lk_X8_35 : LK RX8 35 yX5_init := Or.inr ⟨"TentCamp", List.mem_of_getElem? (i := 294) (by decide +kernel)⟩
theorem lk_X8_44 : LK RX8 44 yX4_init := Or.inr ⟨"TentCamp", List.mem_of_getElem? (i := 296) (by decide +kernel)⟩
theorem lk_L_99 : LK RL 99 yX8_clearText := Or.inl (in_g 316 (by decide +kernel) rfl)
theorem lg_L_99 : Cond.methodLink RL 99 yX8_clearText ∈ gtbl := (in_g 316 (by decide +kernel) rfl)
theorem lk_L_103 : LK RL 103 yX8_errorPosition := Or.inl (in_g 320 (by decide +kernel) rfl)
theorem lg_L_103 : Cond.methodLink RL 103 yX8_errorPosition ∈ gtbl := (in_g 320 (by decide +kernel) rfl)
theorem lk_X8_68 : LK RX8 68 yX7_faultPosition := Or.inl (in_g 324 (by decide +kernel) rfl)
theorem lg_X8_68 : Cond.methodLink RX8 68 yX7_faultPosition ∈ gtbl := (in_g 324 (by decide +kernel) rfl)
theorem lk_X7_28 : LK RX7 28 yX7_readHead := Or.inl (in_g 328 (by decide +kernel) rfl)
theorem lg_X7_28 : Cond.methodLink RX7 28 yX7_readHead ∈ gtbl := (in_g 328 (by decide +kernel) rfl)
theorem lk_X7_45 : LK RX7 45 yX7_readLetter := Or.inl (in_g 332 (by decide +kernel) rfl)
theorem lg_X7_45 : Cond.methodLink RX7 45 yX7_readLetter ∈ gtbl := (in_g 332 (by decide +kernel) rfl)
theorem lk_X7_31 : LK RX7 31 yX7_goesOn := Or.inl (in_g 336 (by decide +kernel) rfl)
theorem lg_X7_31 : Cond.methodLink RX7 31 yX7_goesOn ∈ gtbl := (in_g 336 (by decide +kernel) rfl)
theorem lk_X7_68 : LK RX7 68 yX4_get := Or.inl (in_g 340 (by decide +kernel) rfl)
theorem lg_X7_68 : Cond.methodLink RX7 68 yX4_get ∈ gtbl := (in_g 340 (by decide +kernel) rfl)
theorem lk_X7_52 : LK RX7 52 yX7_failAt := Or.inl (in_g 344 (by decide +kernel) rfl)
theorem lg_X7_52 : Cond.methodLink RX7 52 yX7_failAt ∈ gtbl := (in_g 344 (by decide +kernel) rfl)
theorem lk_X7_55 : LK RX7 55 yX7_readNumber := Or.inl (in_g 348 (by decide +kernel) rfl)
theorem lg_X7_55 : Cond.methodLink RX7 55 yX7_readNumber ∈ gtbl := (in_g 348 (by decide +kernel) rfl)
theorem lk_X7_72 : LK RX7 72 yX7_digitHere := Or.inl (in_g 352 (by decide +kernel) rfl)
theorem lg_X7_72 : Cond.methodLink RX7 72 yX7_digitHere ∈ gtbl := (in_g 352 (by decide +kernel) rfl)
theorem lk_X7_35 : LK RX7 35 yX7_readCommand := Or.inl (in_g 356 (by decide +kernel) rfl)
theorem lg_X7_35 : Cond.methodLink RX7 35 yX7_readCommand ∈ gtbl := (in_g 356 (by decide +kernel) rfl)
theorem lk_X7_65 : LK RX7 65 yX7_readStep := Or.inl (in_g 360 (by decide +kernel) rfl)
theorem lg_X7_65 : Cond.methodLink RX7 65 yX7_readStep ∈ gtbl := (in_g 360 (by decide +kernel) rfl)
theorem lk_X7_75 : LK RX7 75 yX8_isStep := Or.inr ⟨"TentCamp", List.mem_of_getElem? (i := 364) (by decide +kernel)⟩
theorem lk_L_157 : LK RL 157 yX8_bestSize := Or.inl (in_g 367 (by decide +kernel) rfl)
theorem lg_L_157 : Cond.methodLink RL 157 yX8_bestSize ∈ gtbl := (in_g 367 (by decide +kernel) rfl)
theorem lk_X8_90 : LK RX8 90 yX0_beginAnew := Or.inl (in_g 371 (by decide +kernel) rfl)
theorem lg_X8_90 : Cond.methodLink RX8 90 yX0_beginAnew ∈ gtbl := (in_g 371 (by decide +kernel) rfl)
theorem lk_X8_283 : LK RX8 283 yX0_putUpAll := Or.inl (in_g 375 (by decide +kernel) rfl)
theorem lg_X8_283 : Cond.methodLink RX8 283 yX0_putUpAll ∈ gtbl := (in_g 375 (by decide +kernel) rfl)
theorem lk_X0_91 : LK RX0 91 yX4_get := Or.inl (in_g 379 (by decide +kernel) rfl)
theorem lg_X0_91 : Cond.methodLink RX0 91 yX4_get ∈ gtbl := (in_g 379 (by decide +kernel) rfl)
theorem lk_X0_154 : LK RX0 154 yX0_putUp := Or.inl (in_g 380 (by decide +kernel) rfl)
theorem lg_X0_154 : Cond.methodLink RX0 154 yX0_putUp ∈ gtbl := (in_g 380 (by decide +kernel) rfl)
theorem lk_X0_133 : LK RX0 133 yX0_takeSite := Or.inl (in_g 384 (by decide +kernel) rfl)
theorem lg_X0_133 : Cond.methodLink RX0 133 yX0_takeSite ∈ gtbl := (in_g 384 (by decide +kernel) rfl)
theorem lk_X0_112 : LK RX0 112 yX0_siteFor := Or.inl (in_g 388 (by decide +kernel) rfl)
theorem lg_X0_112 : Cond.methodLink RX0 112 yX0_siteFor ∈ gtbl := (in_g 388 (by decide +kernel) rfl)
theorem lk_X0_95 : LK RX0 95 yX1_lastUsual := Or.inl (in_g 392 (by decide +kernel) rfl)
theorem lg_X0_95 : Cond.methodLink RX0 95 yX1_lastUsual ∈ gtbl := (in_g 392 (by decide +kernel) rfl)
theorem lk_X1_44 : LK RX1 44 yX4_get := Or.inl (in_g 396 (by decide +kernel) rfl)
theorem lg_X1_44 : Cond.methodLink RX1 44 yX4_get ∈ gtbl := (in_g 396 (by decide +kernel) rfl)
theorem lk_X0_99 : LK RX0 99 yX0_openPlace := Or.inl (in_g 397 (by decide +kernel) rfl)
theorem lg_X0_99 : Cond.methodLink RX0 99 yX0_openPlace ∈ gtbl := (in_g 397 (by decide +kernel) rfl)
theorem lk_X0_106 : LK RX0 106 yX1_smallestFor := Or.inl (in_g 401 (by decide +kernel) rfl)
theorem lg_X0_106 : Cond.methodLink RX0 106 yX1_smallestFor ∈ gtbl := (in_g 401 (by decide +kernel) rfl)
theorem lk_X0_109 : LK RX0 109 yX0_newFieldSize := Or.inl (in_g 405 (by decide +kernel) rfl)
theorem lg_X0_109 : Cond.methodLink RX0 109 yX0_newFieldSize ∈ gtbl := (in_g 405 (by decide +kernel) rfl)
theorem lk_X0_84 : LK RX0 84 yX0_wantsBig := Or.inl (in_g 409 (by decide +kernel) rfl)
theorem lg_X0_84 : Cond.methodLink RX0 84 yX0_wantsBig ∈ gtbl := (in_g 409 (by decide +kernel) rfl)
theorem lk_X0_115 : LK RX0 115 yX4_put := Or.inl (in_g 413 (by decide +kernel) rfl)
theorem lg_X0_115 : Cond.methodLink RX0 115 yX4_put ∈ gtbl := (in_g 413 (by decide +kernel) rfl)
theorem lk_X0_122 : LK RX0 122 yX1_add := Or.inl (in_g 417 (by decide +kernel) rfl)
theorem lg_X0_122 : Cond.methodLink RX0 122 yX1_add ∈ gtbl := (in_g 417 (by decide +kernel) rfl)
theorem lk_X1_33 : LK RX1 33 yX4_put := Or.inl (in_g 421 (by decide +kernel) rfl)
theorem lg_X1_33 : Cond.methodLink RX1 33 yX4_put ∈ gtbl := (in_g 421 (by decide +kernel) rfl)
theorem lk_X0_126 : LK RX0 126 yX1_remove := Or.inl (in_g 422 (by decide +kernel) rfl)
theorem lg_X0_126 : Cond.methodLink RX0 126 yX1_remove ∈ gtbl := (in_g 422 (by decide +kernel) rfl)
theorem lk_X1_37 : LK RX1 37 yX1_has := Or.inl (in_g 426 (by decide +kernel) rfl)
theorem lg_X1_37 : Cond.methodLink RX1 37 yX1_has ∈ gtbl := (in_g 426 (by decide +kernel) rfl)
theorem lk_X1_41 : LK RX1 41 yX4_cut := Or.inl (in_g 430 (by decide +kernel) rfl)
theorem lg_X1_41 : Cond.methodLink RX1 41 yX4_cut ∈ gtbl := (in_g 430 (by decide +kernel) rfl)
theorem lk_X0_129 : LK RX0 129 yX4_strew := Or.inl (in_g 434 (by decide +kernel) rfl)
theorem lg_X0_129 : Cond.methodLink RX0 129 yX4_strew ∈ gtbl := (in_g 434 (by decide +kernel) rfl)
theorem lk_X0_146 : LK RX0 146 yX6_placesFrom := Or.inl (in_g 441 (by decide +kernel) rfl)
theorem lg_X0_146 : Cond.methodLink RX0 146 yX6_placesFrom ∈ gtbl := (in_g 441 (by decide +kernel) rfl)
theorem lk_X6_33 : LK RX6 33 yX4_get := Or.inl (in_g 445 (by decide +kernel) rfl)
theorem lg_X6_33 : Cond.methodLink RX6 33 yX4_get ∈ gtbl := (in_g 445 (by decide +kernel) rfl)
theorem lk_L_90 : LK RL 90 yL_append := Or.inl (in_g 447 (by decide +kernel) rfl)
theorem lg_L_90 : Cond.methodLink RL 90 yL_append ∈ gtbl := (in_g 447 (by decide +kernel) rfl)
theorem lk_L_7 : LK RL 7 yX8_append := Or.inl (in_g 452 (by decide +kernel) rfl)
theorem lg_L_7 : Cond.methodLink RL 7 yX8_append ∈ gtbl := (in_g 452 (by decide +kernel) rfl)
theorem lk_X8_65 : LK RX8 65 yX7_add := Or.inl (in_g 540 (by decide +kernel) rfl)
theorem lg_X8_65 : Cond.methodLink RX8 65 yX7_add ∈ gtbl := (in_g 540 (by decide +kernel) rfl)
theorem lk_X7_24 : LK RX7 24 yX4_put := Or.inl (in_g 544 (by decide +kernel) rfl)
theorem lg_X7_24 : Cond.methodLink RX7 24 yX4_put ∈ gtbl := (in_g 544 (by decide +kernel) rfl)
theorem lk_L_107 : LK RL 107 yL_load := Or.inl (in_g 545 (by decide +kernel) rfl)
theorem lg_L_107 : Cond.methodLink RL 107 yL_load ∈ gtbl := (in_g 545 (by decide +kernel) rfl)
theorem lk_L_17 : LK RL 17 yX8_load := Or.inl (in_g 548 (by decide +kernel) rfl)
theorem lg_L_17 : Cond.methodLink RL 17 yX8_load ∈ gtbl := (in_g 548 (by decide +kernel) rfl)
theorem lk_X8_74 : LK RX8 74 yX3_forgetAll := Or.inl (in_g 553 (by decide +kernel) rfl)
theorem lg_X8_74 : Cond.methodLink RX8 74 yX3_forgetAll ∈ gtbl := (in_g 553 (by decide +kernel) rfl)
theorem lk_X8_77 : LK RX8 77 yX4_strew := Or.inl (in_g 557 (by decide +kernel) rfl)
theorem lg_X8_77 : Cond.methodLink RX8 77 yX4_strew ∈ gtbl := (in_g 557 (by decide +kernel) rfl)
theorem lk_X8_81 : LK RX8 81 yX7_readHead := Or.inl (in_g 558 (by decide +kernel) rfl)
theorem lg_X8_81 : Cond.methodLink RX8 81 yX7_readHead ∈ gtbl := (in_g 558 (by decide +kernel) rfl)
theorem lk_X8_94 : LK RX8 94 yX7_goesOn := Or.inl (in_g 559 (by decide +kernel) rfl)
theorem lg_X8_94 : Cond.methodLink RX8 94 yX7_goesOn ∈ gtbl := (in_g 559 (by decide +kernel) rfl)
theorem lk_X8_98 : LK RX8 98 yX7_readCommand := Or.inl (in_g 560 (by decide +kernel) rfl)
theorem lg_X8_98 : Cond.methodLink RX8 98 yX7_readCommand ∈ gtbl := (in_g 560 (by decide +kernel) rfl)
theorem lk_X8_101 : LK RX8 101 yX8_carryOut := Or.inl (in_g 561 (by decide +kernel) rfl)
theorem lg_X8_101 : Cond.methodLink RX8 101 yX8_carryOut ∈ gtbl := (in_g 561 (by decide +kernel) rfl)
theorem lk_X8_245 : LK RX8 245 yX0_putUp := Or.inl (in_g 564 (by decide +kernel) rfl)
theorem lg_X8_245 : Cond.methodLink RX8 245 yX0_putUp ∈ gtbl := (in_g 564 (by decide +kernel) rfl)
theorem lk_X8_255 : LK RX8 255 yX0_goIn := Or.inl (in_g 565 (by decide +kernel) rfl)
theorem lg_X8_255 : Cond.methodLink RX8 255 yX0_goIn ∈ gtbl := (in_g 565 (by decide +kernel) rfl)
theorem lk_X8_260 : LK RX8 260 yX0_goOut := Or.inl (in_g 569 (by decide +kernel) rfl)
theorem lg_X8_260 : Cond.methodLink RX8 260 yX0_goOut ∈ gtbl := (in_g 569 (by decide +kernel) rfl)
theorem lk_X0_171 : LK RX0 171 yX0_goBack := Or.inl (in_g 573 (by decide +kernel) rfl)
theorem lg_X0_171 : Cond.methodLink RX0 171 yX0_goBack ∈ gtbl := (in_g 573 (by decide +kernel) rfl)
theorem lk_X0_174 : LK RX0 174 yX2_has := Or.inl (in_g 577 (by decide +kernel) rfl)
theorem lg_X0_174 : Cond.methodLink RX0 174 yX2_has ∈ gtbl := (in_g 577 (by decide +kernel) rfl)
theorem lk_X0_175 : LK RX0 175 yX0_strikeTents := Or.inl (in_g 581 (by decide +kernel) rfl)
theorem lg_X0_175 : Cond.methodLink RX0 175 yX0_strikeTents ∈ gtbl := (in_g 581 (by decide +kernel) rfl)
theorem lk_X0_184 : LK RX0 184 yX0_strewTent := Or.inl (in_g 585 (by decide +kernel) rfl)
theorem lg_X0_184 : Cond.methodLink RX0 184 yX0_strewTent ∈ gtbl := (in_g 585 (by decide +kernel) rfl)
theorem lk_X0_157 : LK RX0 157 yX6_has := Or.inl (in_g 589 (by decide +kernel) rfl)
theorem lg_X0_157 : Cond.methodLink RX0 157 yX6_has ∈ gtbl := (in_g 589 (by decide +kernel) rfl)
theorem lk_X0_160 : LK RX0 160 yX6_end := Or.inl (in_g 593 (by decide +kernel) rfl)
theorem lg_X0_160 : Cond.methodLink RX0 160 yX6_end ∈ gtbl := (in_g 593 (by decide +kernel) rfl)
theorem lk_X0_162 : LK RX0 162 yX4_countOf := Or.inl (in_g 597 (by decide +kernel) rfl)
theorem lg_X0_162 : Cond.methodLink RX0 162 yX4_countOf ∈ gtbl := (in_g 597 (by decide +kernel) rfl)
theorem lk_X0_178 : LK RX0 178 yX0_clearFields := Or.inl (in_g 601 (by decide +kernel) rfl)
theorem lg_X0_178 : Cond.methodLink RX0 178 yX0_clearFields ∈ gtbl := (in_g 601 (by decide +kernel) rfl)
theorem lk_X0_181 : LK RX0 181 yX0_giveUpTooMuch := Or.inl (in_g 605 (by decide +kernel) rfl)
theorem lg_X0_181 : Cond.methodLink RX0 181 yX0_giveUpTooMuch ∈ gtbl := (in_g 605 (by decide +kernel) rfl)
theorem lk_X0_187 : LK RX0 187 yX1_places := Or.inl (in_g 609 (by decide +kernel) rfl)
theorem lg_X0_187 : Cond.methodLink RX0 187 yX1_places ∈ gtbl := (in_g 609 (by decide +kernel) rfl)
theorem lk_X0_190 : LK RX0 190 yX1_greatest := Or.inl (in_g 613 (by decide +kernel) rfl)
theorem lg_X0_190 : Cond.methodLink RX0 190 yX1_greatest ∈ gtbl := (in_g 613 (by decide +kernel) rfl)
theorem lk_X0_193 : LK RX0 193 yX4_cut := Or.inl (in_g 617 (by decide +kernel) rfl)
theorem lg_X0_193 : Cond.methodLink RX0 193 yX4_cut ∈ gtbl := (in_g 617 (by decide +kernel) rfl)
theorem lk_X0_196 : LK RX0 196 yX1_closeUp := Or.inl (in_g 618 (by decide +kernel) rfl)
theorem lg_X0_196 : Cond.methodLink RX0 196 yX1_closeUp ∈ gtbl := (in_g 618 (by decide +kernel) rfl)
theorem lk_X8_263 : LK RX8 263 yX0_goBack := Or.inl (in_g 622 (by decide +kernel) rfl)
theorem lg_X8_263 : Cond.methodLink RX8 263 yX0_goBack ∈ gtbl := (in_g 622 (by decide +kernel) rfl)
theorem lk_X8_250 : LK RX8 250 yX0_strewTent := Or.inl (in_g 623 (by decide +kernel) rfl)
theorem lg_X8_250 : Cond.methodLink RX8 250 yX0_strewTent ∈ gtbl := (in_g 623 (by decide +kernel) rfl)
theorem lk_L_111 : LK RL 111 yL_about := Or.inl (in_g 624 (by decide +kernel) rfl)
theorem lg_L_111 : Cond.methodLink RL 111 yL_about ∈ gtbl := (in_g 624 (by decide +kernel) rfl)
theorem lk_L_21 : LK RL 21 yX8_about := Or.inl (in_g 627 (by decide +kernel) rfl)
theorem lg_L_21 : Cond.methodLink RL 21 yX8_about ∈ gtbl := (in_g 627 (by decide +kernel) rfl)
theorem lk_X8_131 : LK RX8 131 yX6_placesFrom := Or.inl (in_g 631 (by decide +kernel) rfl)
theorem lg_X8_131 : Cond.methodLink RX8 131 yX6_placesFrom ∈ gtbl := (in_g 631 (by decide +kernel) rfl)
theorem lk_X8_135 : LK RX8 135 yX1_places := Or.inl (in_g 632 (by decide +kernel) rfl)
theorem lg_X8_135 : Cond.methodLink RX8 135 yX1_places ∈ gtbl := (in_g 632 (by decide +kernel) rfl)
theorem lk_X8_138 : LK RX8 138 yX0_gaps := Or.inl (in_g 633 (by decide +kernel) rfl)
theorem lg_X8_138 : Cond.methodLink RX8 138 yX0_gaps ∈ gtbl := (in_g 633 (by decide +kernel) rfl)
theorem lk_L_114 : LK RL 114 yL_tent := Or.inl (in_g 638 (by decide +kernel) rfl)
theorem lg_L_114 : Cond.methodLink RL 114 yL_tent ∈ gtbl := (in_g 638 (by decide +kernel) rfl)
theorem lk_L_24 : LK RL 24 yX8_tent := Or.inl (in_g 642 (by decide +kernel) rfl)
theorem lg_L_24 : Cond.methodLink RL 24 yX8_tent ∈ gtbl := (in_g 642 (by decide +kernel) rfl)
theorem lk_X8_161 : LK RX8 161 yX6_has := Or.inl (in_g 646 (by decide +kernel) rfl)
theorem lg_X8_161 : Cond.methodLink RX8 161 yX6_has ∈ gtbl := (in_g 646 (by decide +kernel) rfl)
theorem lk_X8_173 : LK RX8 173 yX4_get := Or.inl (in_g 663 (by decide +kernel) rfl)
theorem lg_X8_173 : Cond.methodLink RX8 173 yX4_get ∈ gtbl := (in_g 663 (by decide +kernel) rfl)
theorem lk_X8_184 : LK RX8 184 yX2_lastAheadOf := Or.inl (in_g 664 (by decide +kernel) rfl)
theorem lg_X8_184 : Cond.methodLink RX8 184 yX2_lastAheadOf ∈ gtbl := (in_g 664 (by decide +kernel) rfl)
theorem lk_X2_27 : LK RX2 27 yX4_get := Or.inl (in_g 668 (by decide +kernel) rfl)
theorem lg_X2_27 : Cond.methodLink RX2 27 yX4_get ∈ gtbl := (in_g 668 (by decide +kernel) rfl)
theorem lk_L_118 : LK RL 118 yL_field := Or.inl (in_g 670 (by decide +kernel) rfl)
theorem lg_L_118 : Cond.methodLink RL 118 yL_field ∈ gtbl := (in_g 670 (by decide +kernel) rfl)
theorem lk_L_30 : LK RL 30 yX8_field := Or.inl (in_g 673 (by decide +kernel) rfl)
theorem lg_L_30 : Cond.methodLink RL 30 yX8_field ∈ gtbl := (in_g 673 (by decide +kernel) rfl)
theorem lk_X8_189 : LK RX8 189 yX1_has := Or.inl (in_g 677 (by decide +kernel) rfl)
theorem lg_X8_189 : Cond.methodLink RX8 189 yX1_has ∈ gtbl := (in_g 677 (by decide +kernel) rfl)
theorem lk_X8_199 : LK RX8 199 yX6_countOn := Or.inl (in_g 679 (by decide +kernel) rfl)
theorem lg_X8_199 : Cond.methodLink RX8 199 yX6_countOn ∈ gtbl := (in_g 679 (by decide +kernel) rfl)
theorem lk_X6_37 : LK RX6 37 yX4_countOf := Or.inl (in_g 683 (by decide +kernel) rfl)
theorem lg_X6_37 : Cond.methodLink RX6 37 yX4_countOf ∈ gtbl := (in_g 683 (by decide +kernel) rfl)
theorem lk_X8_208 : LK RX8 208 yX4_countOf := Or.inl (in_g 684 (by decide +kernel) rfl)
theorem lg_X8_208 : Cond.methodLink RX8 208 yX4_countOf ∈ gtbl := (in_g 684 (by decide +kernel) rfl)
theorem lk_L_121 : LK RL 121 yL_place := Or.inl (in_g 685 (by decide +kernel) rfl)
theorem lg_L_121 : Cond.methodLink RL 121 yL_place ∈ gtbl := (in_g 685 (by decide +kernel) rfl)
theorem lk_L_33 : LK RL 33 yX8_place := Or.inl (in_g 688 (by decide +kernel) rfl)
theorem lg_L_33 : Cond.methodLink RL 33 yX8_place ∈ gtbl := (in_g 688 (by decide +kernel) rfl)
theorem lk_L_124 : LK RL 124 yL_spare := Or.inl (in_g 693 (by decide +kernel) rfl)
theorem lg_L_124 : Cond.methodLink RL 124 yL_spare ∈ gtbl := (in_g 693 (by decide +kernel) rfl)
theorem lk_L_36 : LK RL 36 yX8_spare := Or.inl (in_g 696 (by decide +kernel) rfl)
theorem lg_L_36 : Cond.methodLink RL 36 yX8_spare ∈ gtbl := (in_g 696 (by decide +kernel) rfl)
theorem lk_X8_216 : LK RX8 216 yX1_withRank := Or.inl (in_g 701 (by decide +kernel) rfl)
theorem lg_X8_216 : Cond.methodLink RX8 216 yX1_withRank ∈ gtbl := (in_g 701 (by decide +kernel) rfl)
theorem lk_X1_48 : LK RX1 48 yX1_countAheadOf := Or.inl (in_g 705 (by decide +kernel) rfl)
theorem lg_X1_48 : Cond.methodLink RX1 48 yX1_countAheadOf ∈ gtbl := (in_g 705 (by decide +kernel) rfl)
theorem lk_L_127 : LK RL 127 yL_frame := Or.inl (in_g 709 (by decide +kernel) rfl)
theorem lg_L_127 : Cond.methodLink RL 127 yL_frame ∈ gtbl := (in_g 709 (by decide +kernel) rfl)
theorem lk_L_39 : LK RL 39 yX8_frame := Or.inl (in_g 712 (by decide +kernel) rfl)
theorem lg_L_39 : Cond.methodLink RL 39 yX8_frame ∈ gtbl := (in_g 712 (by decide +kernel) rfl)
theorem lk_X8_219 : LK RX8 219 yX2_has := Or.inl (in_g 716 (by decide +kernel) rfl)
theorem lg_X8_219 : Cond.methodLink RX8 219 yX2_has ∈ gtbl := (in_g 716 (by decide +kernel) rfl)
theorem lk_L_130 : LK RL 130 yL_pitch := Or.inl (in_g 719 (by decide +kernel) rfl)
theorem lg_L_130 : Cond.methodLink RL 130 yL_pitch ∈ gtbl := (in_g 719 (by decide +kernel) rfl)
theorem lk_L_42 : LK RL 42 yX8_pitch := Or.inl (in_g 722 (by decide +kernel) rfl)
theorem lg_L_42 : Cond.methodLink RL 42 yX8_pitch ∈ gtbl := (in_g 722 (by decide +kernel) rfl)
theorem lk_X8_229 : LK RX8 229 yX8_isTentKind := Or.inl (in_g 726 (by decide +kernel) rfl)
theorem lg_X8_229 : Cond.methodLink RX8 229 yX8_isTentKind ∈ gtbl := (in_g 726 (by decide +kernel) rfl)
theorem lk_X8_330 : LK RX8 330 yX8_isStep := Or.inl (in_g 729 (by decide +kernel) rfl)
theorem lg_X8_330 : Cond.methodLink RX8 330 yX8_isStep ∈ gtbl := (in_g 729 (by decide +kernel) rfl)
theorem lk_X8_235 : LK RX8 235 yX0_siteFor := Or.inl (in_g 731 (by decide +kernel) rfl)
theorem lg_X8_235 : Cond.methodLink RX8 235 yX0_siteFor ∈ gtbl := (in_g 731 (by decide +kernel) rfl)
theorem lk_X8_241 : LK RX8 241 yX3_remember := Or.inl (in_g 733 (by decide +kernel) rfl)
theorem lg_X8_241 : Cond.methodLink RX8 241 yX3_remember ∈ gtbl := (in_g 733 (by decide +kernel) rfl)
theorem lk_X3_27 : LK RX3 27 yX5_lay := Or.inl (in_g 737 (by decide +kernel) rfl)
theorem lg_X3_27 : Cond.methodLink RX3 27 yX5_lay ∈ gtbl := (in_g 737 (by decide +kernel) rfl)
theorem lk_X5_22 : LK RX5 22 yX5_at := Or.inl (in_g 741 (by decide +kernel) rfl)
theorem lg_X5_22 : Cond.methodLink RX5 22 yX5_at ∈ gtbl := (in_g 741 (by decide +kernel) rfl)
theorem lk_X5_26 : LK RX5 26 yX0_copy := Or.inl (in_g 745 (by decide +kernel) rfl)
theorem lg_X5_26 : Cond.methodLink RX5 26 yX0_copy ∈ gtbl := (in_g 745 (by decide +kernel) rfl)
theorem lk_X0_71 : LK RX0 71 yX4_copy := Or.inl (in_g 749 (by decide +kernel) rfl)
theorem lg_X0_71 : Cond.methodLink RX0 71 yX4_copy ∈ gtbl := (in_g 749 (by decide +kernel) rfl)
theorem lk_X0_75 : LK RX0 75 yX6_copy := Or.inl (in_g 756 (by decide +kernel) rfl)
theorem lg_X0_75 : Cond.methodLink RX0 75 yX6_copy ∈ gtbl := (in_g 756 (by decide +kernel) rfl)
theorem lk_X6_41 : LK RX6 41 yX4_copy := Or.inl (in_g 760 (by decide +kernel) rfl)
theorem lg_X6_41 : Cond.methodLink RX6 41 yX4_copy ∈ gtbl := (in_g 760 (by decide +kernel) rfl)
theorem lk_X0_78 : LK RX0 78 yX2_copy := Or.inl (in_g 761 (by decide +kernel) rfl)
theorem lg_X0_78 : Cond.methodLink RX0 78 yX2_copy ∈ gtbl := (in_g 761 (by decide +kernel) rfl)
theorem lk_X2_31 : LK RX2 31 yX4_copy := Or.inl (in_g 765 (by decide +kernel) rfl)
theorem lg_X2_31 : Cond.methodLink RX2 31 yX4_copy ∈ gtbl := (in_g 765 (by decide +kernel) rfl)
theorem lk_X0_81 : LK RX0 81 yX1_copy := Or.inl (in_g 766 (by decide +kernel) rfl)
theorem lg_X0_81 : Cond.methodLink RX0 81 yX1_copy ∈ gtbl := (in_g 766 (by decide +kernel) rfl)
theorem lk_X1_51 : LK RX1 51 yX4_copy := Or.inl (in_g 770 (by decide +kernel) rfl)
theorem lg_X1_51 : Cond.methodLink RX1 51 yX4_copy ∈ gtbl := (in_g 770 (by decide +kernel) rfl)
theorem lk_L_133 : LK RL 133 yL_fill := Or.inl (in_g 772 (by decide +kernel) rfl)
theorem lg_L_133 : Cond.methodLink RL 133 yL_fill ∈ gtbl := (in_g 772 (by decide +kernel) rfl)
theorem lk_L_45 : LK RL 45 yX8_fill := Or.inl (in_g 775 (by decide +kernel) rfl)
theorem lg_L_45 : Cond.methodLink RL 45 yX8_fill ∈ gtbl := (in_g 775 (by decide +kernel) rfl)
theorem lk_L_136 : LK RL 136 yL_enter := Or.inl (in_g 780 (by decide +kernel) rfl)
theorem lg_L_136 : Cond.methodLink RL 136 yL_enter ∈ gtbl := (in_g 780 (by decide +kernel) rfl)
theorem lk_L_48 : LK RL 48 yX8_enter := Or.inl (in_g 783 (by decide +kernel) rfl)
theorem lg_L_48 : Cond.methodLink RL 48 yX8_enter ∈ gtbl := (in_g 783 (by decide +kernel) rfl)
theorem lk_L_139 : LK RL 139 yL_leave := Or.inl (in_g 788 (by decide +kernel) rfl)
theorem lg_L_139 : Cond.methodLink RL 139 yL_leave ∈ gtbl := (in_g 788 (by decide +kernel) rfl)
theorem lk_L_51 : LK RL 51 yX8_leave := Or.inl (in_g 791 (by decide +kernel) rfl)
theorem lg_L_51 : Cond.methodLink RL 51 yX8_leave ∈ gtbl := (in_g 791 (by decide +kernel) rfl)
theorem lk_L_142 : LK RL 142 yL_jump := Or.inl (in_g 796 (by decide +kernel) rfl)
theorem lg_L_142 : Cond.methodLink RL 142 yL_jump ∈ gtbl := (in_g 796 (by decide +kernel) rfl)
theorem lk_L_54 : LK RL 54 yX8_jump := Or.inl (in_g 799 (by decide +kernel) rfl)
theorem lg_L_54 : Cond.methodLink RL 54 yX8_jump ∈ gtbl := (in_g 799 (by decide +kernel) rfl)
theorem lk_L_145 : LK RL 145 yL_set := Or.inl (in_g 803 (by decide +kernel) rfl)
theorem lg_L_145 : Cond.methodLink RL 145 yL_set ∈ gtbl := (in_g 803 (by decide +kernel) rfl)
theorem lk_L_57 : LK RL 57 yX8_set := Or.inl (in_g 806 (by decide +kernel) rfl)
theorem lg_L_57 : Cond.methodLink RL 57 yX8_set ∈ gtbl := (in_g 806 (by decide +kernel) rfl)
theorem lk_X8_266 : LK RX8 266 yX8_isSetting := Or.inl (in_g 810 (by decide +kernel) rfl)
theorem lg_X8_266 : Cond.methodLink RX8 266 yX8_isSetting ∈ gtbl := (in_g 810 (by decide +kernel) rfl)
theorem lk_L_148 : LK RL 148 yL_undo := Or.inl (in_g 814 (by decide +kernel) rfl)
theorem lg_L_148 : Cond.methodLink RL 148 yL_undo ∈ gtbl := (in_g 814 (by decide +kernel) rfl)
theorem lk_L_60 : LK RL 60 yX8_undo := Or.inl (in_g 817 (by decide +kernel) rfl)
theorem lg_L_60 : Cond.methodLink RL 60 yX8_undo ∈ gtbl := (in_g 817 (by decide +kernel) rfl)
theorem lk_X8_274 : LK RX8 274 yX3_takeBack := Or.inl (in_g 822 (by decide +kernel) rfl)
theorem lg_X8_274 : Cond.methodLink RX8 274 yX3_takeBack ∈ gtbl := (in_g 822 (by decide +kernel) rfl)
theorem lk_X3_40 : LK RX3 40 yX5_fetch := Or.inl (in_g 827 (by decide +kernel) rfl)
theorem lg_X3_40 : Cond.methodLink RX3 40 yX5_fetch ∈ gtbl := (in_g 827 (by decide +kernel) rfl)
theorem lk_L_151 : LK RL 151 yL_where := Or.inl (in_g 831 (by decide +kernel) rfl)
theorem lg_L_151 : Cond.methodLink RL 151 yL_where ∈ gtbl := (in_g 831 (by decide +kernel) rfl)
theorem lk_L_63 : LK RL 63 yX8_where := Or.inl (in_g 834 (by decide +kernel) rfl)
theorem lg_L_63 : Cond.methodLink RL 63 yX8_where ∈ gtbl := (in_g 834 (by decide +kernel) rfl)
theorem lk_L_154 : LK RL 154 yL_givenUp := Or.inl (in_g 838 (by decide +kernel) rfl)
theorem lg_L_154 : Cond.methodLink RL 154 yL_givenUp ∈ gtbl := (in_g 838 (by decide +kernel) rfl)
theorem lk_L_66 : LK RL 66 yX8_givenUp := Or.inl (in_g 841 (by decide +kernel) rfl)
theorem lg_L_66 : Cond.methodLink RL 66 yX8_givenUp ∈ gtbl := (in_g 841 (by decide +kernel) rfl)
theorem lk_X8_277 : LK RX8 277 yX0_copy := Or.inl (in_g 845 (by decide +kernel) rfl)
theorem lg_X8_277 : Cond.methodLink RX8 277 yX0_copy ∈ gtbl := (in_g 845 (by decide +kernel) rfl)
theorem lk_L_161 : LK RL 161 yL_more := Or.inl (in_g 846 (by decide +kernel) rfl)
theorem lg_L_161 : Cond.methodLink RL 161 yL_more ∈ gtbl := (in_g 846 (by decide +kernel) rfl)
theorem lk_L_69 : LK RL 69 yX8_more := Or.inl (in_g 849 (by decide +kernel) rfl)
theorem lg_L_69 : Cond.methodLink RL 69 yX8_more ∈ gtbl := (in_g 849 (by decide +kernel) rfl)
theorem lk_X8_287 : LK RX8 287 yX0_takeSite := Or.inl (in_g 853 (by decide +kernel) rfl)
theorem lg_X8_287 : Cond.methodLink RX8 287 yX0_takeSite ∈ gtbl := (in_g 853 (by decide +kernel) rfl)
theorem lk_L_166 : LK RL 166 yL_runScript := Or.inl (in_g 854 (by decide +kernel) rfl)
theorem lg_L_166 : Cond.methodLink RL 166 yL_runScript ∈ gtbl := (in_g 854 (by decide +kernel) rfl)
theorem lk_L_72 : LK RL 72 yX8_runScript := Or.inl (in_g 857 (by decide +kernel) rfl)
theorem lg_L_72 : Cond.methodLink RL 72 yX8_runScript ∈ gtbl := (in_g 857 (by decide +kernel) rfl)
theorem lk_X8_296 : LK RX8 296 yX8_succeeds := Or.inl (in_g 864 (by decide +kernel) rfl)
theorem lg_X8_296 : Cond.methodLink RX8 296 yX8_succeeds ∈ gtbl := (in_g 864 (by decide +kernel) rfl)
theorem lk_L_170 : LK RL 170 yL_simulate := Or.inl (in_g 870 (by decide +kernel) rfl)
theorem lg_L_170 : Cond.methodLink RL 170 yL_simulate ∈ gtbl := (in_g 870 (by decide +kernel) rfl)
theorem lk_L_76 : LK RL 76 yX8_simulate := Or.inl (in_g 873 (by decide +kernel) rfl)
theorem lg_L_76 : Cond.methodLink RL 76 yX8_simulate ∈ gtbl := (in_g 873 (by decide +kernel) rfl)
theorem lk_X8_312 : LK RX8 312 yX8_stepOnce := Or.inl (in_g 880 (by decide +kernel) rfl)
theorem lg_X8_312 : Cond.methodLink RX8 312 yX8_stepOnce ∈ gtbl := (in_g 880 (by decide +kernel) rfl)
theorem lk_L_174 : LK RL 174 yL_save := Or.inl (in_g 883 (by decide +kernel) rfl)
theorem lg_L_174 : Cond.methodLink RL 174 yL_save ∈ gtbl := (in_g 883 (by decide +kernel) rfl)
theorem lk_L_80 : LK RL 80 yX8_save := Or.inl (in_g 886 (by decide +kernel) rfl)
theorem lg_L_80 : Cond.methodLink RL 80 yX8_save ∈ gtbl := (in_g 886 (by decide +kernel) rfl)
theorem lk_X8_318 : LK RX8 318 yX5_lay := Or.inl (in_g 891 (by decide +kernel) rfl)
theorem lg_X8_318 : Cond.methodLink RX8 318 yX5_lay ∈ gtbl := (in_g 891 (by decide +kernel) rfl)
theorem lk_X8_322 : LK RX8 322 yX4_put := Or.inl (in_g 892 (by decide +kernel) rfl)
theorem lg_X8_322 : Cond.methodLink RX8 322 yX4_put ∈ gtbl := (in_g 892 (by decide +kernel) rfl)
theorem lk_L_177 : LK RL 177 yL_restore := Or.inl (in_g 893 (by decide +kernel) rfl)
theorem lg_L_177 : Cond.methodLink RL 177 yL_restore ∈ gtbl := (in_g 893 (by decide +kernel) rfl)
theorem lk_L_83 : LK RL 83 yX8_restore := Or.inl (in_g 896 (by decide +kernel) rfl)
theorem lg_L_83 : Cond.methodLink RL 83 yX8_restore ∈ gtbl := (in_g 896 (by decide +kernel) rfl)
theorem lk_X8_327 : LK RX8 327 yX5_fetch := Or.inl (in_g 901 (by decide +kernel) rfl)
theorem lg_X8_327 : Cond.methodLink RX8 327 yX5_fetch ∈ gtbl := (in_g 901 (by decide +kernel) rfl)
theorem lk_L_89 : LK RL 89 yX9_init := Or.inl (in_g 904 (by decide +kernel) rfl)
theorem lg_L_89 : Cond.methodLink RL 89 yX9_init ∈ gtbl := (in_g 904 (by decide +kernel) rfl)
theorem lk_X9_32 : LK RX9 32 yX9_clean := Or.inl (in_g 908 (by decide +kernel) rfl)
theorem lg_X9_32 : Cond.methodLink RX9 32 yX9_clean ∈ gtbl := (in_g 908 (by decide +kernel) rfl)
theorem lk_L_96 : LK RL 96 yX9_thrown := Or.inl (in_g 952 (by decide +kernel) rfl)
theorem lg_L_96 : Cond.methodLink RL 96 yX9_thrown ∈ gtbl := (in_g 952 (by decide +kernel) rfl)
theorem lk_L_95 : LK RL 95 yX9_append := Or.inl (in_g 956 (by decide +kernel) rfl)
theorem lg_L_95 : Cond.methodLink RL 95 yX9_append ∈ gtbl := (in_g 956 (by decide +kernel) rfl)
theorem lk_X9_121 : LK RX9 121 yX9_in := Or.inl (in_g 961 (by decide +kernel) rfl)
theorem lg_X9_121 : Cond.methodLink RX9 121 yX9_in ∈ gtbl := (in_g 961 (by decide +kernel) rfl)
theorem lk_X9_128 : LK RX9 128 yX9_refused := Or.inl (in_g 964 (by decide +kernel) rfl)
theorem lg_X9_128 : Cond.methodLink RX9 128 yX9_refused ∈ gtbl := (in_g 964 (by decide +kernel) rfl)
theorem lk_L_102 : LK RL 102 yX9_clearText := Or.inl (in_g 968 (by decide +kernel) rfl)
theorem lg_L_102 : Cond.methodLink RL 102 yX9_clearText ∈ gtbl := (in_g 968 (by decide +kernel) rfl)
theorem lk_L_106 : LK RL 106 yX9_errorPosition := Or.inl (in_g 972 (by decide +kernel) rfl)
theorem lg_L_106 : Cond.methodLink RL 106 yX9_errorPosition ∈ gtbl := (in_g 972 (by decide +kernel) rfl)
theorem lk_X9_196 : LK RX9 196 yX9_readText := Or.inl (in_g 976 (by decide +kernel) rfl)
theorem lg_X9_196 : Cond.methodLink RX9 196 yX9_readText ∈ gtbl := (in_g 976 (by decide +kernel) rfl)
theorem lk_X9_180 : LK RX9 180 yX9_isNext := Or.inl (in_g 980 (by decide +kernel) rfl)
theorem lg_X9_180 : Cond.methodLink RX9 180 yX9_isNext ∈ gtbl := (in_g 980 (by decide +kernel) rfl)
theorem lk_X9_141 : LK RX9 141 yX9_accept := Or.inl (in_g 984 (by decide +kernel) rfl)
theorem lg_X9_141 : Cond.methodLink RX9 141 yX9_accept ∈ gtbl := (in_g 984 (by decide +kernel) rfl)
theorem lk_X9_151 : LK RX9 151 yX9_two := Or.inl (in_g 988 (by decide +kernel) rfl)
theorem lg_X9_151 : Cond.methodLink RX9 151 yX9_two ∈ gtbl := (in_g 988 (by decide +kernel) rfl)
theorem lk_X9_145 : LK RX9 145 yX9_digit := Or.inl (in_g 992 (by decide +kernel) rfl)
theorem lg_X9_145 : Cond.methodLink RX9 145 yX9_digit ∈ gtbl := (in_g 992 (by decide +kernel) rfl)
theorem lk_X9_193 : LK RX9 193 yX9_readCommand := Or.inl (in_g 997 (by decide +kernel) rfl)
theorem lg_X9_193 : Cond.methodLink RX9 193 yX9_readCommand ∈ gtbl := (in_g 997 (by decide +kernel) rfl)
theorem lk_X9_183 : LK RX9 183 yX9_readPitch := Or.inl (in_g 1001 (by decide +kernel) rfl)
theorem lg_X9_183 : Cond.methodLink RX9 183 yX9_readPitch ∈ gtbl := (in_g 1001 (by decide +kernel) rfl)
theorem lk_X9_154 : LK RX9 154 yX9_stepRead := Or.inl (in_g 1005 (by decide +kernel) rfl)
theorem lg_X9_154 : Cond.methodLink RX9 154 yX9_stepRead ∈ gtbl := (in_g 1005 (by decide +kernel) rfl)
theorem lk_X9_148 : LK RX9 148 yX9_isStep := Or.inl (in_g 1009 (by decide +kernel) rfl)
theorem lg_X9_148 : Cond.methodLink RX9 148 yX9_isStep ∈ gtbl := (in_g 1009 (by decide +kernel) rfl)
theorem lk_X9_158 : LK RX9 158 yX9_canPitch := Or.inl (in_g 1012 (by decide +kernel) rfl)
theorem lg_X9_158 : Cond.methodLink RX9 158 yX9_canPitch ∈ gtbl := (in_g 1012 (by decide +kernel) rfl)
theorem lk_X9_84 : LK RX9 84 yX9_whereIn := Or.inl (in_g 1015 (by decide +kernel) rfl)
theorem lg_X9_84 : Cond.methodLink RX9 84 yX9_whereIn ∈ gtbl := (in_g 1015 (by decide +kernel) rfl)
theorem lk_X9_69 : LK RX9 69 yX9_roomOn := Or.inl (in_g 1018 (by decide +kernel) rfl)
theorem lg_X9_69 : Cond.methodLink RX9 69 yX9_roomOn ∈ gtbl := (in_g 1018 (by decide +kernel) rfl)
theorem lk_X9_66 : LK RX9 66 yX9_lastUsual := Or.inl (in_g 1021 (by decide +kernel) rfl)
theorem lg_X9_66 : Cond.methodLink RX9 66 yX9_lastUsual ∈ gtbl := (in_g 1021 (by decide +kernel) rfl)
theorem lk_X9_53 : LK RX9 53 yX9_fieldAt := Or.inl (in_g 1024 (by decide +kernel) rfl)
theorem lg_X9_53 : Cond.methodLink RX9 53 yX9_fieldAt ∈ gtbl := (in_g 1024 (by decide +kernel) rfl)
theorem lk_X9_73 : LK RX9 73 yX9_spareFor := Or.inl (in_g 1027 (by decide +kernel) rfl)
theorem lg_X9_73 : Cond.methodLink RX9 73 yX9_spareFor ∈ gtbl := (in_g 1027 (by decide +kernel) rfl)
theorem lk_X9_56 : LK RX9 56 yX9_spareAt := Or.inl (in_g 1030 (by decide +kernel) rfl)
theorem lg_X9_56 : Cond.methodLink RX9 56 yX9_spareAt ∈ gtbl := (in_g 1030 (by decide +kernel) rfl)
theorem lk_X9_77 : LK RX9 77 yX9_isBig := Or.inl (in_g 1033 (by decide +kernel) rfl)
theorem lg_X9_77 : Cond.methodLink RX9 77 yX9_isBig ∈ gtbl := (in_g 1033 (by decide +kernel) rfl)
theorem lk_X9_81 : LK RX9 81 yX9_allPlaces := Or.inl (in_g 1036 (by decide +kernel) rfl)
theorem lg_X9_81 : Cond.methodLink RX9 81 yX9_allPlaces ∈ gtbl := (in_g 1036 (by decide +kernel) rfl)
theorem lk_X9_59 : LK RX9 59 yX9_usedPlaces := Or.inl (in_g 1039 (by decide +kernel) rfl)
theorem lg_X9_59 : Cond.methodLink RX9 59 yX9_usedPlaces ∈ gtbl := (in_g 1039 (by decide +kernel) rfl)
theorem lk_X9_63 : LK RX9 63 yX9_sparePlaces := Or.inl (in_g 1042 (by decide +kernel) rfl)
theorem lg_X9_63 : Cond.methodLink RX9 63 yX9_sparePlaces ∈ gtbl := (in_g 1042 (by decide +kernel) rfl)
theorem lk_X9_165 : LK RX9 165 yX9_pitchIn := Or.inl (in_g 1045 (by decide +kernel) rfl)
theorem lg_X9_165 : Cond.methodLink RX9 165 yX9_pitchIn ∈ gtbl := (in_g 1045 (by decide +kernel) rfl)
theorem lk_X9_94 : LK RX9 94 yX9_pitchOn := Or.inl (in_g 1048 (by decide +kernel) rfl)
theorem lg_X9_94 : Cond.methodLink RX9 94 yX9_pitchOn ∈ gtbl := (in_g 1048 (by decide +kernel) rfl)
theorem lk_X9_87 : LK RX9 87 yX9_takeSpare := Or.inl (in_g 1051 (by decide +kernel) rfl)
theorem lg_X9_87 : Cond.methodLink RX9 87 yX9_takeSpare ∈ gtbl := (in_g 1051 (by decide +kernel) rfl)
theorem lk_X9_45 : LK RX9 45 yX9_copy := Or.inl (in_g 1054 (by decide +kernel) rfl)
theorem lg_X9_45 : Cond.methodLink RX9 45 yX9_copy ∈ gtbl := (in_g 1054 (by decide +kernel) rfl)
theorem lk_X9_91 : LK RX9 91 yX9_makeField := Or.inl (in_g 1057 (by decide +kernel) rfl)
theorem lg_X9_91 : Cond.methodLink RX9 91 yX9_makeField ∈ gtbl := (in_g 1057 (by decide +kernel) rfl)
theorem lk_X9_49 : LK RX9 49 yX9_tentAt := Or.inl (in_g 1060 (by decide +kernel) rfl)
theorem lg_X9_49 : Cond.methodLink RX9 49 yX9_tentAt ∈ gtbl := (in_g 1060 (by decide +kernel) rfl)
theorem lk_X9_97 : LK RX9 97 yX9_tentPlaces := Or.inl (in_g 1063 (by decide +kernel) rfl)
theorem lg_X9_97 : Cond.methodLink RX9 97 yX9_tentPlaces ∈ gtbl := (in_g 1063 (by decide +kernel) rfl)
theorem lk_X9_186 : LK RX9 186 yX9_readFill := Or.inl (in_g 1066 (by decide +kernel) rfl)
theorem lg_X9_186 : Cond.methodLink RX9 186 yX9_readFill ∈ gtbl := (in_g 1066 (by decide +kernel) rfl)
theorem lk_X9_168 : LK RX9 168 yX9_fillIn := Or.inl (in_g 1070 (by decide +kernel) rfl)
theorem lg_X9_168 : Cond.methodLink RX9 168 yX9_fillIn ∈ gtbl := (in_g 1070 (by decide +kernel) rfl)
theorem lk_X9_189 : LK RX9 189 yX9_readFrame := Or.inl (in_g 1073 (by decide +kernel) rfl)
theorem lg_X9_189 : Cond.methodLink RX9 189 yX9_readFrame ∈ gtbl := (in_g 1073 (by decide +kernel) rfl)
theorem lk_X9_171 : LK RX9 171 yX9_enterIn := Or.inl (in_g 1077 (by decide +kernel) rfl)
theorem lg_X9_171 : Cond.methodLink RX9 171 yX9_enterIn ∈ gtbl := (in_g 1077 (by decide +kernel) rfl)
theorem lk_X9_100 : LK RX9 100 yX9_frameAt := Or.inl (in_g 1080 (by decide +kernel) rfl)
theorem lg_X9_100 : Cond.methodLink RX9 100 yX9_frameAt ∈ gtbl := (in_g 1080 (by decide +kernel) rfl)
theorem lk_X9_174 : LK RX9 174 yX9_jumpIn := Or.inl (in_g 1083 (by decide +kernel) rfl)
theorem lg_X9_174 : Cond.methodLink RX9 174 yX9_jumpIn ∈ gtbl := (in_g 1083 (by decide +kernel) rfl)
theorem lk_X9_116 : LK RX9 116 yX9_strikeBehind := Or.inl (in_g 1086 (by decide +kernel) rfl)
theorem lg_X9_116 : Cond.methodLink RX9 116 yX9_strikeBehind ∈ gtbl := (in_g 1086 (by decide +kernel) rfl)
theorem lk_X9_103 : LK RX9 103 yX9_strike := Or.inl (in_g 1089 (by decide +kernel) rfl)
theorem lg_X9_103 : Cond.methodLink RX9 103 yX9_strike ∈ gtbl := (in_g 1089 (by decide +kernel) rfl)
theorem lk_X9_107 : LK RX9 107 yX9_layEnds := Or.inl (in_g 1092 (by decide +kernel) rfl)
theorem lg_X9_107 : Cond.methodLink RX9 107 yX9_layEnds ∈ gtbl := (in_g 1092 (by decide +kernel) rfl)
theorem lk_X9_110 : LK RX9 110 yX9_greatestSpare := Or.inl (in_g 1095 (by decide +kernel) rfl)
theorem lg_X9_110 : Cond.methodLink RX9 110 yX9_greatestSpare ∈ gtbl := (in_g 1095 (by decide +kernel) rfl)
theorem lk_X9_113 : LK RX9 113 yX9_giveUp := Or.inl (in_g 1098 (by decide +kernel) rfl)
theorem lg_X9_113 : Cond.methodLink RX9 113 yX9_giveUp ∈ gtbl := (in_g 1098 (by decide +kernel) rfl)
theorem lk_X9_177 : LK RX9 177 yX9_leaveIn := Or.inl (in_g 1101 (by decide +kernel) rfl)
theorem lg_X9_177 : Cond.methodLink RX9 177 yX9_leaveIn ∈ gtbl := (in_g 1101 (by decide +kernel) rfl)
theorem lk_L_110 : LK RL 110 yX9_load := Or.inl (in_g 1104 (by decide +kernel) rfl)
theorem lg_L_110 : Cond.methodLink RL 110 yX9_load ∈ gtbl := (in_g 1104 (by decide +kernel) rfl)
theorem lk_L_113 : LK RL 113 yX9_about := Or.inl (in_g 1108 (by decide +kernel) rfl)
theorem lg_L_113 : Cond.methodLink RL 113 yX9_about ∈ gtbl := (in_g 1108 (by decide +kernel) rfl)
theorem lk_X9_204 : LK RX9 204 yX9_gaps := Or.inl (in_g 1113 (by decide +kernel) rfl)
theorem lg_X9_204 : Cond.methodLink RX9 204 yX9_gaps ∈ gtbl := (in_g 1113 (by decide +kernel) rfl)
theorem lk_X9_199 : LK RX9 199 yX9_onField := Or.inl (in_g 1116 (by decide +kernel) rfl)
theorem lg_X9_199 : Cond.methodLink RX9 199 yX9_onField ∈ gtbl := (in_g 1116 (by decide +kernel) rfl)
theorem lk_L_117 : LK RL 117 yX9_tent := Or.inl (in_g 1119 (by decide +kernel) rfl)
theorem lg_L_117 : Cond.methodLink RL 117 yX9_tent ∈ gtbl := (in_g 1119 (by decide +kernel) rfl)
theorem lk_X9_207 : LK RX9 207 yX9_isTent := Or.inl (in_g 1123 (by decide +kernel) rfl)
theorem lg_X9_207 : Cond.methodLink RX9 207 yX9_isTent ∈ gtbl := (in_g 1123 (by decide +kernel) rfl)
theorem lk_X9_212 : LK RX9 212 yX9_frameOf := Or.inl (in_g 1128 (by decide +kernel) rfl)
theorem lg_X9_212 : Cond.methodLink RX9 212 yX9_frameOf ∈ gtbl := (in_g 1128 (by decide +kernel) rfl)
theorem lk_L_120 : LK RL 120 yX9_field := Or.inl (in_g 1132 (by decide +kernel) rfl)
theorem lg_L_120 : Cond.methodLink RL 120 yX9_field ∈ gtbl := (in_g 1132 (by decide +kernel) rfl)
theorem lk_X9_216 : LK RX9 216 yX9_isField := Or.inl (in_g 1136 (by decide +kernel) rfl)
theorem lg_X9_216 : Cond.methodLink RX9 216 yX9_isField ∈ gtbl := (in_g 1136 (by decide +kernel) rfl)
theorem lk_X9_219 : LK RX9 219 yX9_tentsOn := Or.inl (in_g 1140 (by decide +kernel) rfl)
theorem lg_X9_219 : Cond.methodLink RX9 219 yX9_tentsOn ∈ gtbl := (in_g 1140 (by decide +kernel) rfl)
theorem lk_X9_222 : LK RX9 222 yX9_poisonOn := Or.inl (in_g 1144 (by decide +kernel) rfl)
theorem lg_X9_222 : Cond.methodLink RX9 222 yX9_poisonOn ∈ gtbl := (in_g 1144 (by decide +kernel) rfl)
theorem lk_L_123 : LK RL 123 yX9_place := Or.inl (in_g 1148 (by decide +kernel) rfl)
theorem lg_L_123 : Cond.methodLink RL 123 yX9_place ∈ gtbl := (in_g 1148 (by decide +kernel) rfl)
theorem lk_L_126 : LK RL 126 yX9_spare := Or.inl (in_g 1152 (by decide +kernel) rfl)
theorem lg_L_126 : Cond.methodLink RL 126 yX9_spare ∈ gtbl := (in_g 1152 (by decide +kernel) rfl)
theorem lk_L_129 : LK RL 129 yX9_frame := Or.inl (in_g 1156 (by decide +kernel) rfl)
theorem lg_L_129 : Cond.methodLink RL 129 yX9_frame ∈ gtbl := (in_g 1156 (by decide +kernel) rfl)
theorem lk_X9_225 : LK RX9 225 yX9_isFrame := Or.inl (in_g 1160 (by decide +kernel) rfl)
theorem lg_X9_225 : Cond.methodLink RX9 225 yX9_isFrame ∈ gtbl := (in_g 1160 (by decide +kernel) rfl)
theorem lk_L_132 : LK RL 132 yX9_pitch := Or.inl (in_g 1165 (by decide +kernel) rfl)
theorem lg_L_132 : Cond.methodLink RL 132 yX9_pitch ∈ gtbl := (in_g 1165 (by decide +kernel) rfl)
theorem lk_X9_232 : LK RX9 232 yX9_isTentSize := Or.inl (in_g 1169 (by decide +kernel) rfl)
theorem lg_X9_232 : Cond.methodLink RX9 232 yX9_isTentSize ∈ gtbl := (in_g 1169 (by decide +kernel) rfl)
theorem lk_X9_235 : LK RX9 235 yX9_remember := Or.inl (in_g 1173 (by decide +kernel) rfl)
theorem lg_X9_235 : Cond.methodLink RX9 235 yX9_remember ∈ gtbl := (in_g 1173 (by decide +kernel) rfl)
theorem lk_L_135 : LK RL 135 yX9_fill := Or.inl (in_g 1177 (by decide +kernel) rfl)
theorem lg_L_135 : Cond.methodLink RL 135 yX9_fill ∈ gtbl := (in_g 1177 (by decide +kernel) rfl)
theorem lk_L_138 : LK RL 138 yX9_enter := Or.inl (in_g 1182 (by decide +kernel) rfl)
theorem lg_L_138 : Cond.methodLink RL 138 yX9_enter ∈ gtbl := (in_g 1182 (by decide +kernel) rfl)
theorem lk_L_141 : LK RL 141 yX9_leave := Or.inl (in_g 1186 (by decide +kernel) rfl)
theorem lg_L_141 : Cond.methodLink RL 141 yX9_leave ∈ gtbl := (in_g 1186 (by decide +kernel) rfl)
theorem lk_L_144 : LK RL 144 yX9_jump := Or.inl (in_g 1190 (by decide +kernel) rfl)
theorem lg_L_144 : Cond.methodLink RL 144 yX9_jump ∈ gtbl := (in_g 1190 (by decide +kernel) rfl)
theorem lk_L_147 : LK RL 147 yX9_set := Or.inl (in_g 1194 (by decide +kernel) rfl)
theorem lg_L_147 : Cond.methodLink RL 147 yX9_set ∈ gtbl := (in_g 1194 (by decide +kernel) rfl)
theorem lk_L_150 : LK RL 150 yX9_undo := Or.inl (in_g 1201 (by decide +kernel) rfl)
theorem lg_L_150 : Cond.methodLink RL 150 yX9_undo ∈ gtbl := (in_g 1201 (by decide +kernel) rfl)
theorem lk_L_153 : LK RL 153 yX9_where := Or.inl (in_g 1205 (by decide +kernel) rfl)
theorem lg_L_153 : Cond.methodLink RL 153 yX9_where ∈ gtbl := (in_g 1205 (by decide +kernel) rfl)
theorem lk_L_156 : LK RL 156 yX9_givenUp := Or.inl (in_g 1209 (by decide +kernel) rfl)
theorem lg_L_156 : Cond.methodLink RL 156 yX9_givenUp ∈ gtbl := (in_g 1209 (by decide +kernel) rfl)
theorem lk_X9_246 : LK RX9 246 yX9_begin := Or.inl (in_g 1213 (by decide +kernel) rfl)
theorem lg_X9_246 : Cond.methodLink RX9 246 yX9_begin ∈ gtbl := (in_g 1213 (by decide +kernel) rfl)
theorem lk_L_160 : LK RL 160 yX9_bestSize := Or.inl (in_g 1217 (by decide +kernel) rfl)
theorem lg_L_160 : Cond.methodLink RL 160 yX9_bestSize ∈ gtbl := (in_g 1217 (by decide +kernel) rfl)
theorem lk_X9_249 : LK RX9 249 yX9_needs := Or.inl (in_g 1221 (by decide +kernel) rfl)
theorem lg_X9_249 : Cond.methodLink RX9 249 yX9_needs ∈ gtbl := (in_g 1221 (by decide +kernel) rfl)
theorem lk_L_163 : LK RL 163 yX9_more := Or.inl (in_g 1225 (by decide +kernel) rfl)
theorem lg_L_163 : Cond.methodLink RL 163 yX9_more ∈ gtbl := (in_g 1225 (by decide +kernel) rfl)
theorem lk_L_169 : LK RL 169 yX9_runScript := Or.inl (in_g 1229 (by decide +kernel) rfl)
theorem lg_L_169 : Cond.methodLink RL 169 yX9_runScript ∈ gtbl := (in_g 1229 (by decide +kernel) rfl)
theorem lk_X9_268 : LK RX9 268 yX9_tenTo := Or.inl (in_g 1234 (by decide +kernel) rfl)
theorem lg_X9_268 : Cond.methodLink RX9 268 yX9_tenTo ∈ gtbl := (in_g 1234 (by decide +kernel) rfl)
theorem lk_X9_274 : LK RX9 274 yX9_does := Or.inl (in_g 1239 (by decide +kernel) rfl)
theorem lg_X9_274 : Cond.methodLink RX9 274 yX9_does ∈ gtbl := (in_g 1239 (by decide +kernel) rfl)
theorem lk_X9_252 : LK RX9 252 yX9_pitches := Or.inl (in_g 1243 (by decide +kernel) rfl)
theorem lg_X9_252 : Cond.methodLink RX9 252 yX9_pitches ∈ gtbl := (in_g 1243 (by decide +kernel) rfl)
theorem lk_X9_256 : LK RX9 256 yX9_enters := Or.inl (in_g 1247 (by decide +kernel) rfl)
theorem lg_X9_256 : Cond.methodLink RX9 256 yX9_enters ∈ gtbl := (in_g 1247 (by decide +kernel) rfl)
theorem lk_X9_260 : LK RX9 260 yX9_leaves := Or.inl (in_g 1251 (by decide +kernel) rfl)
theorem lg_X9_260 : Cond.methodLink RX9 260 yX9_leaves ∈ gtbl := (in_g 1251 (by decide +kernel) rfl)
theorem lk_X9_263 : LK RX9 263 yX9_jumps := Or.inl (in_g 1255 (by decide +kernel) rfl)
theorem lg_X9_263 : Cond.methodLink RX9 263 yX9_jumps ∈ gtbl := (in_g 1255 (by decide +kernel) rfl)
theorem lk_L_173 : LK RL 173 yX9_simulate := Or.inl (in_g 1259 (by decide +kernel) rfl)
theorem lg_L_173 : Cond.methodLink RL 173 yX9_simulate ∈ gtbl := (in_g 1259 (by decide +kernel) rfl)
theorem lk_X9_281 : LK RX9 281 yX9_stir := Or.inl (in_g 1265 (by decide +kernel) rfl)
theorem lg_X9_281 : Cond.methodLink RX9 281 yX9_stir ∈ gtbl := (in_g 1265 (by decide +kernel) rfl)
theorem lk_L_176 : LK RL 176 yX9_save := Or.inl (in_g 1269 (by decide +kernel) rfl)
theorem lg_L_176 : Cond.methodLink RL 176 yX9_save ∈ gtbl := (in_g 1269 (by decide +kernel) rfl)
theorem lk_L_179 : LK RL 179 yX9_restore := Or.inl (in_g 1273 (by decide +kernel) rfl)
theorem lg_L_179 : Cond.methodLink RL 179 yX9_restore ∈ gtbl := (in_g 1273 (by decide +kernel) rfl)
theorem cl_L_8 : Cond.classLink RL 8 RX8 ∈ gtbl := (in_g 59 (by decide +kernel) rfl)
theorem oi_X8_1 : Cond.methodLink RX8 1 Lib.objectInit ∈ gtbl := (in_g 64 (by decide +kernel) rfl)
theorem cl_X8_7 : Cond.classLink RX8 7 RX0 ∈ gtbl := (in_g 67 (by decide +kernel) rfl)
theorem oi_X0_3 : Cond.methodLink RX0 3 Lib.objectInit ∈ gtbl := (in_g 72 (by decide +kernel) rfl)
theorem cl_X0_21 : Cond.classLink RX0 21 RX4 ∈ gtbl := (in_g 73 (by decide +kernel) rfl)
theorem oi_X4_1 : Cond.methodLink RX4 1 Lib.objectInit ∈ gtbl := (in_g 78 (by decide +kernel) rfl)
theorem ma_X4_7 : MX RX4 7 := ⟨(in_g 79 (by decide +kernel) rfl), (in_g 80 (by decide +kernel) rfl), (in_g 44 (by decide +kernel) rfl), (in_g 81 (by decide +kernel) rfl)⟩
theorem ar_int : Cond.arrayClass .int ∈ gtbl := (in_g 86 (by decide +kernel) rfl)
theorem cl_X0_30 : Cond.classLink RX0 30 RX6 ∈ gtbl := (in_g 87 (by decide +kernel) rfl)
theorem oi_X6_3 : Cond.methodLink RX6 3 Lib.objectInit ∈ gtbl := (in_g 92 (by decide +kernel) rfl)
theorem cl_X6_9 : Cond.classLink RX6 9 RX4 ∈ gtbl := (in_g 93 (by decide +kernel) rfl)
theorem cl_X0_37 : Cond.classLink RX0 37 RX2 ∈ gtbl := (in_g 121 (by decide +kernel) rfl)
theorem oi_X2_3 : Cond.methodLink RX2 3 Lib.objectInit ∈ gtbl := (in_g 126 (by decide +kernel) rfl)
theorem cl_X2_9 : Cond.classLink RX2 9 RX4 ∈ gtbl := (in_g 127 (by decide +kernel) rfl)
theorem cl_X0_44 : Cond.classLink RX0 44 RX1 ∈ gtbl := (in_g 145 (by decide +kernel) rfl)
theorem oi_X1_3 : Cond.methodLink RX1 3 Lib.objectInit ∈ gtbl := (in_g 150 (by decide +kernel) rfl)
theorem cl_X1_9 : Cond.classLink RX1 9 RX4 ∈ gtbl := (in_g 151 (by decide +kernel) rfl)
theorem cl_X8_19 : Cond.classLink RX8 19 RX3 ∈ gtbl := (in_g 228 (by decide +kernel) rfl)
theorem oi_X3_3 : Cond.methodLink RX3 3 Lib.objectInit ∈ gtbl := (in_g 233 (by decide +kernel) rfl)
theorem cl_X3_9 : Cond.classLink RX3 9 RX5 ∈ gtbl := (in_g 234 (by decide +kernel) rfl)
theorem oi_X5_1 : Cond.methodLink RX5 1 Lib.objectInit ∈ gtbl := (in_g 239 (by decide +kernel) rfl)
theorem ma_X5_7 : MX RX5 7 := ⟨(in_g 240 (by decide +kernel) rfl), (in_g 80 (by decide +kernel) rfl), (in_g 44 (by decide +kernel) rfl), (in_g 81 (by decide +kernel) rfl)⟩
theorem cl_X5_13 : Cond.classLink RX5 13 RX0 ∈ gtbl := (in_g 241 (by decide +kernel) rfl)
theorem cl_X8_26 : Cond.classLink RX8 26 RX7 ∈ gtbl := (in_g 259 (by decide +kernel) rfl)
theorem oi_X7_3 : Cond.methodLink RX7 3 Lib.objectInit ∈ gtbl := (in_g 264 (by decide +kernel) rfl)
theorem cl_X7_9 : Cond.classLink RX7 9 RX4 ∈ gtbl := (in_g 265 (by decide +kernel) rfl)
theorem cl_X8_33 : Cond.classLink RX8 33 RX5 ∈ gtbl := (in_g 293 (by decide +kernel) rfl)
theorem cl_X8_42 : Cond.classLink RX8 42 RX4 ∈ gtbl := (in_g 295 (by decide +kernel) rfl)
theorem mi_X4_19 : MN RX4 19 := ⟨(in_g 438 (by decide +kernel) rfl), (in_g 439 (by decide +kernel) rfl), (in_g 44 (by decide +kernel) rfl), (in_g 440 (by decide +kernel) rfl)⟩
theorem ma_X0_149 : MX RX0 149 := ⟨(in_g 446 (by decide +kernel) rfl), (in_g 80 (by decide +kernel) rfl), (in_g 44 (by decide +kernel) rfl), (in_g 81 (by decide +kernel) rfl)⟩
theorem ar_byte : Cond.arrayClass .byte ∈ gtbl := (in_g 523 (by decide +kernel) rfl)
theorem ac_X4_22 : AC9 RX4 22 := ⟨(in_g 753 (by decide +kernel) rfl), (in_g 755 (by decide +kernel) rfl), (in_g 754 (by decide +kernel) rfl), (in_g 58 (by decide +kernel) rfl)⟩
theorem mi_X3_31 : MN RX3 31 := ⟨(in_g 771 (by decide +kernel) rfl), (in_g 439 (by decide +kernel) rfl), (in_g 44 (by decide +kernel) rfl), (in_g 440 (by decide +kernel) rfl)⟩
theorem ma_X3_37 : MX RX3 37 := ⟨(in_g 826 (by decide +kernel) rfl), (in_g 80 (by decide +kernel) rfl), (in_g 44 (by decide +kernel) rfl), (in_g 81 (by decide +kernel) rfl)⟩
theorem co_X8_292 : Cond.constantLong RX8 292 (100000) ∈ gtbl := (in_g 862 (by decide +kernel) rfl)
theorem co_X8_308 : Cond.constantLong RX8 308 (6364136223846793005) ∈ gtbl := (in_g 878 (by decide +kernel) rfl)
theorem co_X8_310 : Cond.constantLong RX8 310 (1442695040888963407) ∈ gtbl := (in_g 879 (by decide +kernel) rfl)
theorem cl_L_87 : Cond.classLink RL 87 RX9 ∈ gtbl := (in_g 902 (by decide +kernel) rfl)
theorem oi_X9_1 : Cond.methodLink RX9 1 Lib.objectInit ∈ gtbl := (in_g 907 (by decide +kernel) rfl)
theorem ar_boolean : Cond.arrayClass .boolean ∈ gtbl := (in_g 951 (by decide +kernel) rfl)
theorem co_X9_119 : Cond.constantLong RX9 119 (255) ∈ gtbl := (in_g 960 (by decide +kernel) rfl)
theorem co_X9_139 : Cond.constantLong RX9 139 (9) ∈ gtbl := (in_g 996 (by decide +kernel) rfl)
theorem co_X9_202 : Cond.constantLong RX9 202 (13) ∈ gtbl := (in_g 1112 (by decide +kernel) rfl)
theorem co_X9_210 : Cond.constantLong RX9 210 (4) ∈ gtbl := (in_g 1127 (by decide +kernel) rfl)
theorem co_X9_228 : Cond.constantLong RX9 228 (2) ∈ gtbl := (in_g 1164 (by decide +kernel) rfl)
theorem co_X9_230 : Cond.constantLong RX9 230 (40) ∈ gtbl := (in_g 1172 (by decide +kernel) rfl)
theorem co_X9_238 : Cond.constantLong RX9 238 (99) ∈ gtbl := (in_g 1181 (by decide +kernel) rfl)
theorem co_X9_240 : Cond.constantLong RX9 240 (8) ∈ gtbl := (in_g 1198 (by decide +kernel) rfl)
theorem co_X9_242 : Cond.constantLong RX9 242 (64) ∈ gtbl := (in_g 1199 (by decide +kernel) rfl)
theorem co_X9_244 : Cond.constantLong RX9 244 (128) ∈ gtbl := (in_g 1200 (by decide +kernel) rfl)
theorem co_X9_266 : Cond.constantLong RX9 266 (3) ∈ gtbl := (in_g 1233 (by decide +kernel) rfl)
theorem co_X9_40 : Cond.constantLong RX9 40 (10) ∈ gtbl := (in_g 1237 (by decide +kernel) rfl)
theorem co_X9_272 : Cond.constantLong RX9 272 (100000) ∈ gtbl := (in_g 1238 (by decide +kernel) rfl)
theorem co_X9_277 : Cond.constantLong RX9 277 (6364136223846793005) ∈ gtbl := (in_g 1263 (by decide +kernel) rfl)
theorem co_X9_279 : Cond.constantLong RX9 279 (1442695040888963407) ∈ gtbl := (in_g 1264 (by decide +kernel) rfl)
theorem co_L_164 : Cond.constantLong RL 164 (4294967295) ∈ gtbl := (in_g 1277 (by decide +kernel) rfl)
theorem ar_long : Cond.arrayClass .long ∈ gtbl := (in_g 1278 (by decide +kernel) rfl)
theorem ob_in : Cond.instanceMethod Lib.objectInit ∈ gtbl := (in_g 65 (by decide +kernel) rfl)
theorem ob_co : Cond.code Lib.objectInit ⟨#[0xb1]⟩ 1 none ∈ gtbl := (in_g 66 (by decide +kernel) rfl)
