/-! wrappers and constants for the block rows -/
theorem bp_6 : (Int8.ofInt 6).toInt32 = iN 6 := by decide
theorem bp_7 : (Int8.ofInt 7).toInt32 = iN 7 := by decide
theorem bp_8 : (Int8.ofInt 8).toInt32 = iN 8 := by decide
theorem bp_9 : (Int8.ofInt 9).toInt32 = iN 9 := by decide
theorem bp_10 : (Int8.ofInt 10).toInt32 = iN 10 := by decide
theorem bp_13 : (Int8.ofInt 13).toInt32 = iN 13 := by decide
theorem bp_14 : (Int8.ofInt 14).toInt32 = iN 14 := by decide
theorem bp_16 : (Int8.ofInt 16).toInt32 = iN 16 := by decide
theorem bp_20 : (Int8.ofInt 20).toInt32 = iN 20 := by decide
theorem bp_23 : (Int8.ofInt 23).toInt32 = iN 23 := by decide
theorem bp_24 : (Int8.ofInt 24).toInt32 = iN 24 := by decide
theorem bp_28 : (Int8.ofInt 28).toInt32 = iN 28 := by decide
theorem bp_31 : (Int8.ofInt 31).toInt32 = iN 31 := by decide
theorem bp_32 : (Int8.ofInt 32).toInt32 = iN 32 := by decide
theorem bp_33 : (Int8.ofInt 33).toInt32 = iN 33 := by decide
theorem bp_40 : (Int8.ofInt 40).toInt32 = iN 40 := by decide
theorem bp_48 : (Int8.ofInt 48).toInt32 = iN 48 := by decide
theorem bp_51 : (Int8.ofInt 51).toInt32 = iN 51 := by decide
theorem bp_57 : (Int8.ofInt 57).toInt32 = iN 57 := by decide
theorem bp_64 : (Int8.ofInt 64).toInt32 = iN 64 := by decide
theorem bp_84 : (Int8.ofInt 84).toInt32 = iN 84 := by decide
theorem bp_99 : (Int8.ofInt 99).toInt32 = iN 99 := by decide
theorem bp_100 : (Int8.ofInt 100).toInt32 = iN 100 := by decide
theorem bp_101 : (Int8.ofInt 101).toInt32 = iN 101 := by decide
theorem bp_102 : (Int8.ofInt 102).toInt32 = iN 102 := by decide
theorem bp_106 : (Int8.ofInt 106).toInt32 = iN 106 := by decide
theorem bp_108 : (Int8.ofInt 108).toInt32 = iN 108 := by decide
theorem bp_112 : (Int8.ofInt 112).toInt32 = iN 112 := by decide
theorem bp_120 : (Int8.ofInt 120).toInt32 = iN 120 := by decide
theorem cj_2 : (2 : Int64) = jN 2 := by decide
theorem cj_3 : (3 : Int64) = jN 3 := by decide
theorem cj_4 : (4 : Int64) = jN 4 := by decide
theorem cj_8 : (8 : Int64) = jN 8 := by decide
theorem cj_9 : (9 : Int64) = jN 9 := by decide
theorem cj_10 : (10 : Int64) = jN 10 := by decide
theorem cj_13 : (13 : Int64) = jN 13 := by decide
theorem cj_40 : (40 : Int64) = jN 40 := by decide
theorem cj_64 : (64 : Int64) = jN 64 := by decide
theorem cj_99 : (99 : Int64) = jN 99 := by decide
theorem cj_128 : (128 : Int64) = jN 128 := by decide
theorem cj_255 : (255 : Int64) = jN 255 := by decide
theorem cj_100000 : (100000 : Int64) = jN 100000 := by decide
theorem cj_4294967295 : (4294967295 : Int64) = jN 4294967295 := by decide
theorem cj_1442695040888963407 : (1442695040888963407 : Int64) = jN 1442695040888963407 := by decide
theorem cj_6364136223846793005 : (6364136223846793005 : Int64) = jN 6364136223846793005 := by decide
theorem ic_m1 : Int32.ofInt (-1) = iN (-1) := rfl
theorem ic_0 : Int32.ofInt 0 = iN 0 := rfl
theorem ic_1 : Int32.ofInt 1 = iN 1 := rfl
theorem ic_2 : Int32.ofInt 2 = iN 2 := rfl
theorem ic_3 : Int32.ofInt 3 = iN 3 := rfl
theorem ic_4 : Int32.ofInt 4 = iN 4 := rfl
theorem ic_5 : Int32.ofInt 5 = iN 5 := rfl
theorem nzi_2 : ¬ iN 2 = 0 := by decide
theorem nzi_4 : ¬ iN 4 = 0 := by decide
theorem nzi_8 : ¬ iN 8 = 0 := by decide
theorem nzi_10 : ¬ iN 10 = 0 := by decide
theorem nzi_20 : ¬ iN 20 = 0 := by decide
theorem nzi_100 : ¬ iN 100 = 0 := by decide
theorem nzi_256 : ¬ iN 256 = 0 := by decide
theorem nzi_1000 : ¬ iN 1000 = 0 := by decide
theorem nzi_10000 : ¬ iN 10000 = 0 := by decide
theorem nzl_100000 : ¬ jN 100000 = 0 := by decide
theorem sp_128 : (Int16.ofInt 128).toInt32 = iN 128 := by decide
theorem sp_255 : (Int16.ofInt 255).toInt32 = iN 255 := by decide
theorem sp_256 : (Int16.ofInt 256).toInt32 = iN 256 := by decide
theorem sp_257 : (Int16.ofInt 257).toInt32 = iN 257 := by decide
theorem sp_314 : (Int16.ofInt 314).toInt32 = iN 314 := by decide
theorem sp_418 : (Int16.ofInt 418).toInt32 = iN 418 := by decide
theorem sp_434 : (Int16.ofInt 434).toInt32 = iN 434 := by decide
theorem sp_690 : (Int16.ofInt 690).toInt32 = iN 690 := by decide
theorem sp_1000 : (Int16.ofInt 1000).toInt32 = iN 1000 := by decide
theorem sp_1380 : (Int16.ofInt 1380).toInt32 = iN 1380 := by decide
theorem sp_8970 : (Int16.ofInt 8970).toInt32 = iN 8970 := by decide
theorem sp_9660 : (Int16.ofInt 9660).toInt32 = iN 9660 := by decide
theorem sp_10000 : (Int16.ofInt 10000).toInt32 = iN 10000 := by decide
theorem lc_0 : Int64.ofNat ((0 : Fin 2) : Nat) = jN 0 := by decide
theorem lc_1 : Int64.ofNat ((1 : Fin 2) : Nat) = jN 1 := by decide
theorem ch_L_append_0 : CH mL_append 4 0 12 := ⟨[], ⟨0, 9, 12, 13⟩, [⟨0, 9, 15, 15⟩], rfl, rfl, by decide, by decide, by omega, (in_g 450 (by decide +kernel) rfl), fun y hy => nomatch hy⟩
theorem ch_L_append_1 : CH mL_append 4 1 15 := ⟨[⟨0, 9, 12, 13⟩], ⟨0, 9, 15, 15⟩, [], rfl, rfl, by decide, by decide, by omega, (in_g 451 (by decide +kernel) rfl), fun y hy => by
  rw [List.mem_singleton.mp hy]
  exact ⟨by decide, 0, by omega, by omega, (in_g 450 (by decide +kernel) rfl)⟩⟩
theorem ch_L_load_1 : CH mL_load 3 1 11 := ⟨[], ⟨0, 8, 11, 15⟩, [], rfl, rfl, by decide, by decide, by omega, (in_g 451 (by decide +kernel) rfl), fun y hy => nomatch hy⟩
theorem ch_L_about_0 : CH mL_about 4 0 12 := ⟨[], ⟨0, 9, 12, 13⟩, [], rfl, rfl, by decide, by decide, by omega, (in_g 450 (by decide +kernel) rfl), fun y hy => nomatch hy⟩
theorem ch_L_tent_2 : CH mL_tent 5 2 13 := ⟨[], ⟨0, 10, 13, 28⟩, [⟨0, 10, 17, 13⟩], rfl, rfl, by decide, by decide, by omega, (in_g 641 (by decide +kernel) rfl), fun y hy => nomatch hy⟩
theorem ch_L_tent_0 : CH mL_tent 5 0 17 := ⟨[⟨0, 10, 13, 28⟩], ⟨0, 10, 17, 13⟩, [], rfl, rfl, by decide, by decide, by omega, (in_g 450 (by decide +kernel) rfl), fun y hy => by
  rw [List.mem_singleton.mp hy]
  exact ⟨by decide, 2, by omega, by omega, (in_g 641 (by decide +kernel) rfl)⟩⟩
theorem ch_L_field_2 : CH mL_field 5 2 13 := ⟨[], ⟨0, 10, 13, 28⟩, [⟨0, 10, 17, 13⟩], rfl, rfl, by decide, by decide, by omega, (in_g 641 (by decide +kernel) rfl), fun y hy => nomatch hy⟩
theorem ch_L_field_0 : CH mL_field 5 0 17 := ⟨[⟨0, 10, 13, 28⟩], ⟨0, 10, 17, 13⟩, [], rfl, rfl, by decide, by decide, by omega, (in_g 450 (by decide +kernel) rfl), fun y hy => by
  rw [List.mem_singleton.mp hy]
  exact ⟨by decide, 2, by omega, by omega, (in_g 641 (by decide +kernel) rfl)⟩⟩
theorem ch_L_place_2 : CH mL_place 5 2 13 := ⟨[], ⟨0, 10, 13, 28⟩, [], rfl, rfl, by decide, by decide, by omega, (in_g 641 (by decide +kernel) rfl), fun y hy => nomatch hy⟩
theorem ch_L_spare_0 : CH mL_spare 4 0 12 := ⟨[], ⟨0, 9, 12, 13⟩, [], rfl, rfl, by decide, by decide, by omega, (in_g 450 (by decide +kernel) rfl), fun y hy => nomatch hy⟩
theorem ch_L_frame_2 : CH mL_frame 5 2 13 := ⟨[], ⟨0, 10, 13, 28⟩, [⟨0, 10, 17, 13⟩], rfl, rfl, by decide, by decide, by omega, (in_g 641 (by decide +kernel) rfl), fun y hy => nomatch hy⟩
theorem ch_L_frame_0 : CH mL_frame 5 0 17 := ⟨[⟨0, 10, 13, 28⟩], ⟨0, 10, 17, 13⟩, [], rfl, rfl, by decide, by decide, by omega, (in_g 450 (by decide +kernel) rfl), fun y hy => by
  rw [List.mem_singleton.mp hy]
  exact ⟨by decide, 2, by omega, by omega, (in_g 641 (by decide +kernel) rfl)⟩⟩
theorem ch_L_pitch_0 : CH mL_pitch 5 0 13 := ⟨[], ⟨0, 10, 13, 13⟩, [⟨0, 10, 17, 15⟩], rfl, rfl, by decide, by decide, by omega, (in_g 450 (by decide +kernel) rfl), fun y hy => nomatch hy⟩
theorem ch_L_pitch_1 : CH mL_pitch 5 1 17 := ⟨[⟨0, 10, 13, 13⟩], ⟨0, 10, 17, 15⟩, [], rfl, rfl, by decide, by decide, by omega, (in_g 451 (by decide +kernel) rfl), fun y hy => by
  rw [List.mem_singleton.mp hy]
  exact ⟨by decide, 0, by omega, by omega, (in_g 450 (by decide +kernel) rfl)⟩⟩
theorem ch_L_fill_2 : CH mL_fill 5 2 13 := ⟨[], ⟨0, 10, 13, 28⟩, [⟨0, 10, 17, 13⟩], rfl, rfl, by decide, by decide, by omega, (in_g 641 (by decide +kernel) rfl), fun y hy => nomatch hy⟩
theorem ch_L_fill_0 : CH mL_fill 5 0 17 := ⟨[⟨0, 10, 13, 28⟩], ⟨0, 10, 17, 13⟩, [], rfl, rfl, by decide, by decide, by omega, (in_g 450 (by decide +kernel) rfl), fun y hy => by
  rw [List.mem_singleton.mp hy]
  exact ⟨by decide, 2, by omega, by omega, (in_g 641 (by decide +kernel) rfl)⟩⟩
theorem ch_L_enter_1 : CH mL_enter 3 1 11 := ⟨[], ⟨0, 8, 11, 15⟩, [], rfl, rfl, by decide, by decide, by omega, (in_g 451 (by decide +kernel) rfl), fun y hy => nomatch hy⟩
theorem ch_L_leave_1 : CH mL_leave 3 1 11 := ⟨[], ⟨0, 8, 11, 15⟩, [], rfl, rfl, by decide, by decide, by omega, (in_g 451 (by decide +kernel) rfl), fun y hy => nomatch hy⟩
theorem ch_L_jump_2 : CH mL_jump 4 2 12 := ⟨[], ⟨0, 9, 12, 28⟩, [], rfl, rfl, by decide, by decide, by omega, (in_g 641 (by decide +kernel) rfl), fun y hy => nomatch hy⟩
theorem ch_L_set_0 : CH mL_set 5 0 13 := ⟨[], ⟨0, 10, 13, 13⟩, [], rfl, rfl, by decide, by decide, by omega, (in_g 450 (by decide +kernel) rfl), fun y hy => nomatch hy⟩
theorem ch_L_undo_1 : CH mL_undo 3 1 11 := ⟨[], ⟨0, 8, 11, 15⟩, [], rfl, rfl, by decide, by decide, by omega, (in_g 451 (by decide +kernel) rfl), fun y hy => nomatch hy⟩
theorem ch_L_where_0 : CH mL_where 5 0 13 := ⟨[], ⟨0, 10, 13, 13⟩, [], rfl, rfl, by decide, by decide, by omega, (in_g 450 (by decide +kernel) rfl), fun y hy => nomatch hy⟩
theorem ch_L_givenUp_2 : CH mL_givenUp 4 2 12 := ⟨[], ⟨0, 9, 12, 28⟩, [], rfl, rfl, by decide, by decide, by omega, (in_g 641 (by decide +kernel) rfl), fun y hy => nomatch hy⟩
theorem ch_L_more_0 : CH mL_more 5 0 13 := ⟨[], ⟨0, 10, 13, 13⟩, [], rfl, rfl, by decide, by decide, by omega, (in_g 450 (by decide +kernel) rfl), fun y hy => nomatch hy⟩
theorem ch_L_runScript_0 : CH mL_runScript 6 0 14 := ⟨[], ⟨0, 11, 14, 13⟩, [], rfl, rfl, by decide, by decide, by omega, (in_g 450 (by decide +kernel) rfl), fun y hy => nomatch hy⟩
theorem ch_L_simulate_0 : CH mL_simulate 6 0 14 := ⟨[], ⟨0, 11, 14, 13⟩, [], rfl, rfl, by decide, by decide, by omega, (in_g 450 (by decide +kernel) rfl), fun y hy => nomatch hy⟩
theorem ch_L_save_2 : CH mL_save 4 2 12 := ⟨[], ⟨0, 9, 12, 28⟩, [], rfl, rfl, by decide, by decide, by omega, (in_g 641 (by decide +kernel) rfl), fun y hy => nomatch hy⟩
theorem ch_L_restore_2 : CH mL_restore 4 2 12 := ⟨[], ⟨0, 9, 12, 28⟩, [⟨0, 9, 15, 15⟩], rfl, rfl, by decide, by decide, by omega, (in_g 641 (by decide +kernel) rfl), fun y hy => nomatch hy⟩
theorem ch_L_restore_1 : CH mL_restore 4 1 15 := ⟨[⟨0, 9, 12, 28⟩], ⟨0, 9, 15, 15⟩, [], rfl, rfl, by decide, by decide, by omega, (in_g 451 (by decide +kernel) rfl), fun y hy => by
  rw [List.mem_singleton.mp hy]
  exact ⟨by decide, 2, by omega, by omega, (in_g 641 (by decide +kernel) rfl)⟩⟩
theorem ml_X8_300 : ML RX8 300 := ⟨(in_g 867 (by decide +kernel) rfl), (in_g 868 (by decide +kernel) rfl), (in_g 44 (by decide +kernel) rfl), (in_g 869 (by decide +kernel) rfl)⟩
