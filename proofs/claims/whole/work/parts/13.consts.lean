/-! wrappers and constants for the block rows -/
theorem bp_6 : (Int8.ofInt 6).toInt32 = 6 := by decide
theorem bp_7 : (Int8.ofInt 7).toInt32 = 7 := by decide
theorem bp_8 : (Int8.ofInt 8).toInt32 = 8 := by decide
theorem bp_9 : (Int8.ofInt 9).toInt32 = 9 := by decide
theorem bp_10 : (Int8.ofInt 10).toInt32 = 10 := by decide
theorem bp_13 : (Int8.ofInt 13).toInt32 = 13 := by decide
theorem bp_14 : (Int8.ofInt 14).toInt32 = 14 := by decide
theorem bp_16 : (Int8.ofInt 16).toInt32 = 16 := by decide
theorem bp_20 : (Int8.ofInt 20).toInt32 = 20 := by decide
theorem bp_23 : (Int8.ofInt 23).toInt32 = 23 := by decide
theorem bp_24 : (Int8.ofInt 24).toInt32 = 24 := by decide
theorem bp_28 : (Int8.ofInt 28).toInt32 = 28 := by decide
theorem bp_31 : (Int8.ofInt 31).toInt32 = 31 := by decide
theorem bp_32 : (Int8.ofInt 32).toInt32 = 32 := by decide
theorem bp_33 : (Int8.ofInt 33).toInt32 = 33 := by decide
theorem bp_40 : (Int8.ofInt 40).toInt32 = 40 := by decide
theorem bp_48 : (Int8.ofInt 48).toInt32 = 48 := by decide
theorem bp_51 : (Int8.ofInt 51).toInt32 = 51 := by decide
theorem bp_57 : (Int8.ofInt 57).toInt32 = 57 := by decide
theorem bp_64 : (Int8.ofInt 64).toInt32 = 64 := by decide
theorem bp_84 : (Int8.ofInt 84).toInt32 = 84 := by decide
theorem bp_99 : (Int8.ofInt 99).toInt32 = 99 := by decide
theorem bp_100 : (Int8.ofInt 100).toInt32 = 100 := by decide
theorem bp_101 : (Int8.ofInt 101).toInt32 = 101 := by decide
theorem bp_102 : (Int8.ofInt 102).toInt32 = 102 := by decide
theorem bp_106 : (Int8.ofInt 106).toInt32 = 106 := by decide
theorem bp_108 : (Int8.ofInt 108).toInt32 = 108 := by decide
theorem bp_112 : (Int8.ofInt 112).toInt32 = 112 := by decide
theorem bp_120 : (Int8.ofInt 120).toInt32 = 120 := by decide
theorem ic_m1 : Int32.ofInt (-1) = (-1) := by decide
theorem ic_0 : Int32.ofInt 0 = 0 := by decide
theorem ic_1 : Int32.ofInt 1 = 1 := by decide
theorem ic_2 : Int32.ofInt 2 = 2 := by decide
theorem ic_3 : Int32.ofInt 3 = 3 := by decide
theorem ic_4 : Int32.ofInt 4 = 4 := by decide
theorem ic_5 : Int32.ofInt 5 = 5 := by decide
theorem nzi_2 : ¬ (2 : Int32) = 0 := by decide
theorem nzi_4 : ¬ (4 : Int32) = 0 := by decide
theorem nzi_8 : ¬ (8 : Int32) = 0 := by decide
theorem nzi_10 : ¬ (10 : Int32) = 0 := by decide
theorem nzi_20 : ¬ (20 : Int32) = 0 := by decide
theorem nzi_100 : ¬ (100 : Int32) = 0 := by decide
theorem nzi_256 : ¬ (256 : Int32) = 0 := by decide
theorem nzi_1000 : ¬ (1000 : Int32) = 0 := by decide
theorem nzi_10000 : ¬ (10000 : Int32) = 0 := by decide
theorem nzl_100000 : ¬ (100000 : Int64) = 0 := by decide
theorem sp_128 : (Int16.ofInt 128).toInt32 = 128 := by decide
theorem sp_255 : (Int16.ofInt 255).toInt32 = 255 := by decide
theorem sp_256 : (Int16.ofInt 256).toInt32 = 256 := by decide
theorem sp_257 : (Int16.ofInt 257).toInt32 = 257 := by decide
theorem sp_314 : (Int16.ofInt 314).toInt32 = 314 := by decide
theorem sp_418 : (Int16.ofInt 418).toInt32 = 418 := by decide
theorem sp_434 : (Int16.ofInt 434).toInt32 = 434 := by decide
theorem sp_690 : (Int16.ofInt 690).toInt32 = 690 := by decide
theorem sp_1000 : (Int16.ofInt 1000).toInt32 = 1000 := by decide
theorem sp_1380 : (Int16.ofInt 1380).toInt32 = 1380 := by decide
theorem sp_8970 : (Int16.ofInt 8970).toInt32 = 8970 := by decide
theorem sp_9660 : (Int16.ofInt 9660).toInt32 = 9660 := by decide
theorem sp_10000 : (Int16.ofInt 10000).toInt32 = 10000 := by decide
theorem lc_0 : Int64.ofNat ((0 : Fin 2) : Nat) = 0 := by decide
theorem lc_1 : Int64.ofNat ((1 : Fin 2) : Nat) = 1 := by decide
theorem ch_L_append_0 : CH mL_append 4 0 12 := ⟨[], ⟨0, 9, 12, 13⟩, [⟨0, 9, 15, 15⟩], rfl, rfl, by decide, by decide, by omega, (in_g 450 (by decide +kernel) rfl), fun y hy => nomatch hy⟩
theorem ch_L_append_1 : CH mL_append 4 1 15 := ⟨[⟨0, 9, 12, 13⟩], ⟨0, 9, 15, 15⟩, [], rfl, rfl, by decide, by decide, by omega, (in_g 451 (by decide +kernel) rfl), fun y hy => by
  rw [List.mem_singleton.mp hy]
  exact ⟨by decide, 0, by omega, by omega, (in_g 450 (by decide +kernel) rfl)⟩⟩
theorem ch_L_load_1 : CH mL_load 3 1 11 := ⟨[], ⟨0, 8, 11, 15⟩, [], rfl, rfl, by decide, by decide, by omega, (in_g 451 (by decide +kernel) rfl), fun y hy => nomatch hy⟩
theorem ch_L_about_0 : CH mL_about 4 0 12 := ⟨[], ⟨0, 9, 12, 13⟩, [], rfl, rfl, by decide, by decide, by omega, (in_g 450 (by decide +kernel) rfl), fun y hy => nomatch hy⟩
theorem ch_L_tent_2 : CH mL_tent 5 2 13 := ⟨[], ⟨0, 10, 13, 28⟩, [⟨0, 10, 17, 13⟩], rfl, rfl, by decide, by decide, by omega, (in_g 641 (by decide +kernel) rfl), fun y hy => nomatch hy⟩
theorem ch_L_tent_0 : CH mL_tent 5 0 17 := ⟨[⟨0, 10, 13, 28⟩], ⟨0, 10, 17, 13⟩, [], rfl, rfl, by decide, by decide, by omega, (in_g 450 (by decide +kernel) rfl), fun y hy => by
  rw [List.mem_singleton.mp hy]
  exact ⟨by decide, 2, by omega, by omega, (in_g 641 (by decide +kernel) rfl)⟩⟩
theorem ch_L_field_2 : CH mL_field 5 2 13 := ⟨[], ⟨0, 10, 13, 28⟩, [⟨0, 10, 17, 13⟩], rfl, rfl, by decide, by decide, by omega, (in_g 641 (by decide +kernel) rfl), fun y hy => nomatch hy⟩
theorem ch_L_field_0 : CH mL_field 5 0 17 := ⟨[⟨0, 10, 13, 28⟩], ⟨0, 10, 17, 13⟩, [], rfl, rfl, by decide, by decide, by omega, (in_g 450 (by decide +kernel) rfl), fun y hy => by
  rw [List.mem_singleton.mp hy]
  exact ⟨by decide, 2, by omega, by omega, (in_g 641 (by decide +kernel) rfl)⟩⟩
theorem ch_L_place_2 : CH mL_place 5 2 13 := ⟨[], ⟨0, 10, 13, 28⟩, [], rfl, rfl, by decide, by decide, by omega, (in_g 641 (by decide +kernel) rfl), fun y hy => nomatch hy⟩
theorem ch_L_spare_0 : CH mL_spare 4 0 12 := ⟨[], ⟨0, 9, 12, 13⟩, [], rfl, rfl, by decide, by decide, by omega, (in_g 450 (by decide +kernel) rfl), fun y hy => nomatch hy⟩
theorem ch_L_frame_2 : CH mL_frame 5 2 13 := ⟨[], ⟨0, 10, 13, 28⟩, [⟨0, 10, 17, 13⟩], rfl, rfl, by decide, by decide, by omega, (in_g 641 (by decide +kernel) rfl), fun y hy => nomatch hy⟩
theorem ch_L_frame_0 : CH mL_frame 5 0 17 := ⟨[⟨0, 10, 13, 28⟩], ⟨0, 10, 17, 13⟩, [], rfl, rfl, by decide, by decide, by omega, (in_g 450 (by decide +kernel) rfl), fun y hy => by
  rw [List.mem_singleton.mp hy]
  exact ⟨by decide, 2, by omega, by omega, (in_g 641 (by decide +kernel) rfl)⟩⟩
theorem ch_L_pitch_0 : CH mL_pitch 5 0 13 := ⟨[], ⟨0, 10, 13, 13⟩, [⟨0, 10, 17, 15⟩], rfl, rfl, by decide, by decide, by omega, (in_g 450 (by decide +kernel) rfl), fun y hy => nomatch hy⟩
theorem ch_L_pitch_1 : CH mL_pitch 5 1 17 := ⟨[⟨0, 10, 13, 13⟩], ⟨0, 10, 17, 15⟩, [], rfl, rfl, by decide, by decide, by omega, (in_g 451 (by decide +kernel) rfl), fun y hy => by
  rw [List.mem_singleton.mp hy]
  exact ⟨by decide, 0, by omega, by omega, (in_g 450 (by decide +kernel) rfl)⟩⟩
theorem ch_L_fill_2 : CH mL_fill 5 2 13 := ⟨[], ⟨0, 10, 13, 28⟩, [⟨0, 10, 17, 13⟩], rfl, rfl, by decide, by decide, by omega, (in_g 641 (by decide +kernel) rfl), fun y hy => nomatch hy⟩
theorem ch_L_fill_0 : CH mL_fill 5 0 17 := ⟨[⟨0, 10, 13, 28⟩], ⟨0, 10, 17, 13⟩, [], rfl, rfl, by decide, by decide, by omega, (in_g 450 (by decide +kernel) rfl), fun y hy => by
  rw [List.mem_singleton.mp hy]
  exact ⟨by decide, 2, by omega, by omega, (in_g 641 (by decide +kernel) rfl)⟩⟩
theorem ch_L_enter_1 : CH mL_enter 3 1 11 := ⟨[], ⟨0, 8, 11, 15⟩, [], rfl, rfl, by decide, by decide, by omega, (in_g 451 (by decide +kernel) rfl), fun y hy => nomatch hy⟩
theorem ch_L_leave_1 : CH mL_leave 3 1 11 := ⟨[], ⟨0, 8, 11, 15⟩, [], rfl, rfl, by decide, by decide, by omega, (in_g 451 (by decide +kernel) rfl), fun y hy => nomatch hy⟩
theorem ch_L_jump_2 : CH mL_jump 4 2 12 := ⟨[], ⟨0, 9, 12, 28⟩, [], rfl, rfl, by decide, by decide, by omega, (in_g 641 (by decide +kernel) rfl), fun y hy => nomatch hy⟩
theorem ch_L_set_0 : CH mL_set 5 0 13 := ⟨[], ⟨0, 10, 13, 13⟩, [], rfl, rfl, by decide, by decide, by omega, (in_g 450 (by decide +kernel) rfl), fun y hy => nomatch hy⟩
theorem ch_L_undo_1 : CH mL_undo 3 1 11 := ⟨[], ⟨0, 8, 11, 15⟩, [], rfl, rfl, by decide, by decide, by omega, (in_g 451 (by decide +kernel) rfl), fun y hy => nomatch hy⟩
theorem ch_L_where_0 : CH mL_where 5 0 13 := ⟨[], ⟨0, 10, 13, 13⟩, [], rfl, rfl, by decide, by decide, by omega, (in_g 450 (by decide +kernel) rfl), fun y hy => nomatch hy⟩
theorem ch_L_givenUp_2 : CH mL_givenUp 4 2 12 := ⟨[], ⟨0, 9, 12, 28⟩, [], rfl, rfl, by decide, by decide, by omega, (in_g 641 (by decide +kernel) rfl), fun y hy => nomatch hy⟩
theorem ch_L_more_0 : CH mL_more 5 0 13 := ⟨[], ⟨0, 10, 13, 13⟩, [], rfl, rfl, by decide, by decide, by omega, (in_g 450 (by decide +kernel) rfl), fun y hy => nomatch hy⟩
theorem ch_L_runScript_0 : CH mL_runScript 6 0 14 := ⟨[], ⟨0, 11, 14, 13⟩, [], rfl, rfl, by decide, by decide, by omega, (in_g 450 (by decide +kernel) rfl), fun y hy => nomatch hy⟩
theorem ch_L_simulate_0 : CH mL_simulate 6 0 14 := ⟨[], ⟨0, 11, 14, 13⟩, [], rfl, rfl, by decide, by decide, by omega, (in_g 450 (by decide +kernel) rfl), fun y hy => nomatch hy⟩
theorem ch_L_save_2 : CH mL_save 4 2 12 := ⟨[], ⟨0, 9, 12, 28⟩, [], rfl, rfl, by decide, by decide, by omega, (in_g 641 (by decide +kernel) rfl), fun y hy => nomatch hy⟩
theorem ch_L_restore_2 : CH mL_restore 4 2 12 := ⟨[], ⟨0, 9, 12, 28⟩, [⟨0, 9, 15, 15⟩], rfl, rfl, by decide, by decide, by omega, (in_g 641 (by decide +kernel) rfl), fun y hy => nomatch hy⟩
theorem ch_L_restore_1 : CH mL_restore 4 1 15 := ⟨[⟨0, 9, 12, 28⟩], ⟨0, 9, 15, 15⟩, [], rfl, rfl, by decide, by decide, by omega, (in_g 451 (by decide +kernel) rfl), fun y hy => by
  rw [List.mem_singleton.mp hy]
  exact ⟨by decide, 2, by omega, by omega, (in_g 641 (by decide +kernel) rfl)⟩⟩
theorem ml_X8_300 : ML RX8 300 := ⟨(in_g 867 (by decide +kernel) rfl), (in_g 868 (by decide +kernel) rfl), (in_g 44 (by decide +kernel) rfl), (in_g 869 (by decide +kernel) rfl)⟩
