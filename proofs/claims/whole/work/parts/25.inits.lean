/-! Own rows, by program: the constructors. -/
theorem wo_Fs_1 : Cond.methodLink "FollyShire" 1 Lib.objectInit ∈ ow_tb := ow_mem 133 (by decide +kernel) (by decide +kernel)
theorem wo_1 : Cond.instanceMethod Lib.objectInit ∈ ow_tb := ow_mem 134 (by decide +kernel) (by decide +kernel)
theorem wo_2 : Cond.code Lib.objectInit ⟨#[0xb1]⟩ 1 none ∈ ow_tb := ow_mem 135 (by decide +kernel) (by decide +kernel)
theorem wa_byte : Cond.arrayClass .byte ∈ ow_tb := ow_mem 187 (by decide +kernel) (by decide +kernel)
theorem wl_Fs_13 : Cond.classLink "FollyShire" 13 "FollyShire$Told" ∈ ow_tb := ow_mem 136 (by decide +kernel) (by decide +kernel)
theorem wi_8 : Cond.instantiable "FollyShire$Told" 12 ∈ ow_tb := ow_mem 137 (by decide +kernel) (by decide +kernel)
theorem wz_8 : Cond.initialized "FollyShire$Told" ∈ ow_tb := ow_mem 105 (by decide +kernel) (by decide +kernel)
theorem wo_Told_3 : Cond.methodLink "FollyShire$Told" 3 Lib.objectInit ∈ ow_tb := ow_mem 141 (by decide +kernel) (by decide +kernel)
theorem wl_Told_9 : Cond.classLink "FollyShire$Told" 9 "FollyShire$Scene" ∈ ow_tb := ow_mem 142 (by decide +kernel) (by decide +kernel)
theorem wi_4 : Cond.instantiable "FollyShire$Scene" 6 ∈ ow_tb := ow_mem 143 (by decide +kernel) (by decide +kernel)
theorem wz_4 : Cond.initialized "FollyShire$Scene" ∈ ow_tb := ow_mem 106 (by decide +kernel) (by decide +kernel)
theorem wo_Scene_3 : Cond.methodLink "FollyShire$Scene" 3 Lib.objectInit ∈ ow_tb := ow_mem 147 (by decide +kernel) (by decide +kernel)
theorem wa_int : Cond.arrayClass .int ∈ ow_tb := ow_mem 188 (by decide +kernel) (by decide +kernel)
theorem b_Scene_init : ow_okB M_Scene_init 0 := ⟨ow_mem 146 (by decide +kernel) (by decide +kernel), ow_mem 106 (by decide +kernel) (by decide +kernel), ⟨by decide, by decide, by decide +kernel⟩, by decide⟩
theorem bi_Scene_init : Cond.instanceMethod M_Scene_init.1 ∈ ow_tb := ow_mem 145 (by decide +kernel) (by decide +kernel)
theorem b_Told_init : ow_okB M_Told_init 0 := ⟨ow_mem 140 (by decide +kernel) (by decide +kernel), ow_mem 105 (by decide +kernel) (by decide +kernel), ⟨by decide, by decide, by decide +kernel⟩, by decide⟩
theorem bi_Told_init : Cond.instanceMethod M_Told_init.1 ∈ ow_tb := ow_mem 139 (by decide +kernel) (by decide +kernel)
theorem wl_Fs_20 : Cond.classLink "FollyShire" 20 "FollyShire$Reade\x72" ∈ ow_tb := ow_mem 253 (by decide +kernel) (by decide +kernel)
theorem wi_3 : Cond.instantiable "FollyShire$Reade\x72" 11 ∈ ow_tb := ow_mem 254 (by decide +kernel) (by decide +kernel)
theorem wz_3 : Cond.initialized "FollyShire$Reade\x72" ∈ ow_tb := ow_mem 107 (by decide +kernel) (by decide +kernel)
theorem wo_Reader_3 : Cond.methodLink "FollyShire$Reade\x72" 3 Lib.objectInit ∈ ow_tb := ow_mem 258 (by decide +kernel) (by decide +kernel)
theorem wl_Reader_9 : Cond.classLink "FollyShire$Reade\x72" 9 "FollyShire$Told" ∈ ow_tb := ow_mem 259 (by decide +kernel) (by decide +kernel)
theorem wl_Reader_18 : Cond.classLink "FollyShire$Reade\x72" 18 "FollyShire$Tokens" ∈ ow_tb := ow_mem 261 (by decide +kernel) (by decide +kernel)
theorem wi_7 : Cond.instantiable "FollyShire$Tokens" 5 ∈ ow_tb := ow_mem 262 (by decide +kernel) (by decide +kernel)
theorem wz_7 : Cond.initialized "FollyShire$Tokens" ∈ ow_tb := ow_mem 108 (by decide +kernel) (by decide +kernel)
theorem wo_Tokens_1 : Cond.methodLink "FollyShire$Tokens" 1 Lib.objectInit ∈ ow_tb := ow_mem 266 (by decide +kernel) (by decide +kernel)
theorem b_Tokens_init : ow_okB M_Tokens_init 0 := ⟨ow_mem 265 (by decide +kernel) (by decide +kernel), ow_mem 108 (by decide +kernel) (by decide +kernel), ⟨by decide, by decide, by decide +kernel⟩, by decide⟩
theorem bi_Tokens_init : Cond.instanceMethod M_Tokens_init.1 ∈ ow_tb := ow_mem 264 (by decide +kernel) (by decide +kernel)
theorem wa_long : Cond.arrayClass .long ∈ ow_tb := ow_mem 322 (by decide +kernel) (by decide +kernel)
theorem b_Reader_init : ow_okB M_Reader_init 0 := ⟨ow_mem 257 (by decide +kernel) (by decide +kernel), ow_mem 107 (by decide +kernel) (by decide +kernel), ⟨by decide, by decide, by decide +kernel⟩, by decide⟩
theorem bi_Reader_init : Cond.instanceMethod M_Reader_init.1 ∈ ow_tb := ow_mem 256 (by decide +kernel) (by decide +kernel)
theorem wl_Fs_27 : Cond.classLink "FollyShire" 27 "FollyShire$Scene" ∈ ow_tb := ow_mem 323 (by decide +kernel) (by decide +kernel)
theorem wl_Fs_37 : Cond.classLink "FollyShire" 37 "FollyShire$Course" ∈ ow_tb := ow_mem 325 (by decide +kernel) (by decide +kernel)
theorem wi_0 : Cond.instantiable "FollyShire$Course" 5 ∈ ow_tb := ow_mem 326 (by decide +kernel) (by decide +kernel)
theorem wz_0 : Cond.initialized "FollyShire$Course" ∈ ow_tb := ow_mem 109 (by decide +kernel) (by decide +kernel)
theorem wo_Course_3 : Cond.methodLink "FollyShire$Course" 3 Lib.objectInit ∈ ow_tb := ow_mem 330 (by decide +kernel) (by decide +kernel)
theorem b_Course_init : ow_okB M_Course_init 0 := ⟨ow_mem 329 (by decide +kernel) (by decide +kernel), ow_mem 109 (by decide +kernel) (by decide +kernel), ⟨by decide, by decide, by decide +kernel⟩, by decide⟩
theorem bi_Course_init : Cond.instanceMethod M_Course_init.1 ∈ ow_tb := ow_mem 328 (by decide +kernel) (by decide +kernel)
theorem wl_Fs_44 : Cond.classLink "FollyShire" 44 "FollyShire$Serving" ∈ ow_tb := ow_mem 359 (by decide +kernel) (by decide +kernel)
theorem wi_5 : Cond.instantiable "FollyShire$Serving" 7 ∈ ow_tb := ow_mem 360 (by decide +kernel) (by decide +kernel)
theorem wz_5 : Cond.initialized "FollyShire$Serving" ∈ ow_tb := ow_mem 110 (by decide +kernel) (by decide +kernel)
theorem wo_Serving_3 : Cond.methodLink "FollyShire$Serving" 3 Lib.objectInit ∈ ow_tb := ow_mem 364 (by decide +kernel) (by decide +kernel)
theorem wl_Serving_9 : Cond.classLink "FollyShire$Serving" 9 "FollyShire$Course" ∈ ow_tb := ow_mem 365 (by decide +kernel) (by decide +kernel)
theorem wl_Serving_18 : Cond.classLink "FollyShire$Serving" 18 "FollyShire$Scene" ∈ ow_tb := ow_mem 367 (by decide +kernel) (by decide +kernel)
theorem b_Serving_init : ow_okB M_Serving_init 1 := ⟨ow_mem 363 (by decide +kernel) (by decide +kernel), ow_mem 110 (by decide +kernel) (by decide +kernel), ⟨by decide, by decide, by decide +kernel⟩, by decide⟩
theorem bi_Serving_init : Cond.instanceMethod M_Serving_init.1 ∈ ow_tb := ow_mem 362 (by decide +kernel) (by decide +kernel)
theorem l_Fs_46 : Cond.methodLink "FollyShire" 46 M_Serving_init.1 ∈ ow_tb := ow_mem 361 (by decide +kernel) (by decide +kernel)
theorem wl_Fs_53 : Cond.classLink "FollyShire" 53 "FollyShire$Planne\x72" ∈ ow_tb := ow_mem 395 (by decide +kernel) (by decide +kernel)
theorem wi_2 : Cond.instantiable "FollyShire$Planne\x72" 9 ∈ ow_tb := ow_mem 396 (by decide +kernel) (by decide +kernel)
theorem wz_2 : Cond.initialized "FollyShire$Planne\x72" ∈ ow_tb := ow_mem 111 (by decide +kernel) (by decide +kernel)
theorem wo_Planner_3 : Cond.methodLink "FollyShire$Planne\x72" 3 Lib.objectInit ∈ ow_tb := ow_mem 400 (by decide +kernel) (by decide +kernel)
theorem wl_Planner_9 : Cond.classLink "FollyShire$Planne\x72" 9 "FollyShire$Scene" ∈ ow_tb := ow_mem 401 (by decide +kernel) (by decide +kernel)
theorem b_Planner_init : ow_okB M_Planner_init 2 := ⟨ow_mem 399 (by decide +kernel) (by decide +kernel), ow_mem 111 (by decide +kernel) (by decide +kernel), ⟨by decide, by decide, by decide +kernel⟩, by decide⟩
theorem bi_Planner_init : Cond.instanceMethod M_Planner_init.1 ∈ ow_tb := ow_mem 398 (by decide +kernel) (by decide +kernel)
theorem l_Fs_55 : Cond.methodLink "FollyShire" 55 M_Planner_init.1 ∈ ow_tb := ow_mem 397 (by decide +kernel) (by decide +kernel)
theorem wl_Fs_62 : Cond.classLink "FollyShire" 62 "FollyShire$Fits" ∈ ow_tb := ow_mem 433 (by decide +kernel) (by decide +kernel)
theorem wi_1 : Cond.instantiable "FollyShire$Fits" 7 ∈ ow_tb := ow_mem 434 (by decide +kernel) (by decide +kernel)
theorem wz_1 : Cond.initialized "FollyShire$Fits" ∈ ow_tb := ow_mem 112 (by decide +kernel) (by decide +kernel)
theorem wo_Fits_3 : Cond.methodLink "FollyShire$Fits" 3 Lib.objectInit ∈ ow_tb := ow_mem 438 (by decide +kernel) (by decide +kernel)
theorem wl_Fits_9 : Cond.classLink "FollyShire$Fits" 9 "FollyShire$Course" ∈ ow_tb := ow_mem 439 (by decide +kernel) (by decide +kernel)
theorem wl_Fits_18 : Cond.classLink "FollyShire$Fits" 18 "FollyShire$Scene" ∈ ow_tb := ow_mem 441 (by decide +kernel) (by decide +kernel)
theorem b_Fits_init : ow_okB M_Fits_init 1 := ⟨ow_mem 437 (by decide +kernel) (by decide +kernel), ow_mem 112 (by decide +kernel) (by decide +kernel), ⟨by decide, by decide, by decide +kernel⟩, by decide⟩
theorem bi_Fits_init : Cond.instanceMethod M_Fits_init.1 ∈ ow_tb := ow_mem 436 (by decide +kernel) (by decide +kernel)
theorem l_Fs_64 : Cond.methodLink "FollyShire" 64 M_Fits_init.1 ∈ ow_tb := ow_mem 435 (by decide +kernel) (by decide +kernel)
theorem wl_Fs_69 : Cond.classLink "FollyShire" 69 "FollyShire$Votes" ∈ ow_tb := ow_mem 469 (by decide +kernel) (by decide +kernel)
theorem wi_9 : Cond.instantiable "FollyShire$Votes" 1 ∈ ow_tb := ow_mem 470 (by decide +kernel) (by decide +kernel)
theorem wz_9 : Cond.initialized "FollyShire$Votes" ∈ ow_tb := ow_mem 113 (by decide +kernel) (by decide +kernel)
theorem wo_Votes_3 : Cond.methodLink "FollyShire$Votes" 3 Lib.objectInit ∈ ow_tb := ow_mem 474 (by decide +kernel) (by decide +kernel)
theorem b_Votes_init : ow_okB M_Votes_init 1 := ⟨ow_mem 473 (by decide +kernel) (by decide +kernel), ow_mem 113 (by decide +kernel) (by decide +kernel), ⟨by decide, by decide, by decide +kernel⟩, by decide⟩
theorem bi_Votes_init : Cond.instanceMethod M_Votes_init.1 ∈ ow_tb := ow_mem 472 (by decide +kernel) (by decide +kernel)
theorem l_Fs_71 : Cond.methodLink "FollyShire" 71 M_Votes_init.1 ∈ ow_tb := ow_mem 471 (by decide +kernel) (by decide +kernel)
theorem wl_Fs_76 : Cond.classLink "FollyShire" 76 "FollyShire$Winds" ∈ ow_tb := ow_mem 479 (by decide +kernel) (by decide +kernel)
theorem wi_10 : Cond.instantiable "FollyShire$Winds" 6 ∈ ow_tb := ow_mem 480 (by decide +kernel) (by decide +kernel)
theorem wz_10 : Cond.initialized "FollyShire$Winds" ∈ ow_tb := ow_mem 114 (by decide +kernel) (by decide +kernel)
theorem wo_Winds_3 : Cond.methodLink "FollyShire$Winds" 3 Lib.objectInit ∈ ow_tb := ow_mem 484 (by decide +kernel) (by decide +kernel)
theorem wl_Winds_9 : Cond.classLink "FollyShire$Winds" 9 "FollyShire$Course" ∈ ow_tb := ow_mem 485 (by decide +kernel) (by decide +kernel)
theorem b_Winds_init : ow_okB M_Winds_init 1 := ⟨ow_mem 483 (by decide +kernel) (by decide +kernel), ow_mem 114 (by decide +kernel) (by decide +kernel), ⟨by decide, by decide, by decide +kernel⟩, by decide⟩
theorem bi_Winds_init : Cond.instanceMethod M_Winds_init.1 ∈ ow_tb := ow_mem 482 (by decide +kernel) (by decide +kernel)
theorem l_Fs_78 : Cond.methodLink "FollyShire" 78 M_Winds_init.1 ∈ ow_tb := ow_mem 481 (by decide +kernel) (by decide +kernel)
theorem wl_Fs_83 : Cond.classLink "FollyShire" 83 "FollyShire$Snapshots" ∈ ow_tb := ow_mem 510 (by decide +kernel) (by decide +kernel)
theorem wi_6 : Cond.instantiable "FollyShire$Snapshots" 3 ∈ ow_tb := ow_mem 511 (by decide +kernel) (by decide +kernel)
theorem wz_6 : Cond.initialized "FollyShire$Snapshots" ∈ ow_tb := ow_mem 115 (by decide +kernel) (by decide +kernel)
theorem wo_Snaps_3 : Cond.methodLink "FollyShire$Snapshots" 3 Lib.objectInit ∈ ow_tb := ow_mem 515 (by decide +kernel) (by decide +kernel)
theorem b_Snaps_init : ow_okB M_Snaps_init 1 := ⟨ow_mem 514 (by decide +kernel) (by decide +kernel), ow_mem 115 (by decide +kernel) (by decide +kernel), ⟨by decide, by decide, by decide +kernel⟩, by decide⟩
theorem bi_Snaps_init : Cond.instanceMethod M_Snaps_init.1 ∈ ow_tb := ow_mem 513 (by decide +kernel) (by decide +kernel)
theorem l_Fs_85 : Cond.methodLink "FollyShire" 85 M_Snaps_init.1 ∈ ow_tb := ow_mem 512 (by decide +kernel) (by decide +kernel)
theorem wo_Mo_1 : Cond.methodLink "FollyShireModel" 1 Lib.objectInit ∈ ow_tb := ow_mem 1340 (by decide +kernel) (by decide +kernel)
theorem d_Course_init_0 : decode M_Course_init.2.1 0 = .ok (.aload_n 0, 1) := by decide +kernel
theorem d_Course_init_1 : decode M_Course_init.2.1 1 = .ok (.invokespecial 3, 3) := by decide +kernel
theorem d_Course_init_4 : decode M_Course_init.2.1 4 = .ok (.aload_n 0, 1) := by decide +kernel
theorem d_Course_init_5 : decode M_Course_init.2.1 5 = .ok (.bipush 6, 2) := by decide +kernel
theorem d_Course_init_7 : decode M_Course_init.2.1 7 = .ok (.newarray .int, 2) := by decide +kernel
theorem d_Course_init_9 : decode M_Course_init.2.1 9 = .ok (.putfield 9, 3) := by decide +kernel
theorem d_Course_init_12 : decode M_Course_init.2.1 12 = .ok (.return_, 1) := by decide +kernel
theorem d_Fits_init_0 : decode M_Fits_init.2.1 0 = .ok (.aload_n 0, 1) := by decide +kernel
theorem d_Fits_init_1 : decode M_Fits_init.2.1 1 = .ok (.invokespecial 3, 3) := by decide +kernel
theorem d_Fits_init_4 : decode M_Fits_init.2.1 4 = .ok (.aload_n 0, 1) := by decide +kernel
theorem d_Fits_init_5 : decode M_Fits_init.2.1 5 = .ok (.new 9, 3) := by decide +kernel
theorem d_Fits_init_8 : decode M_Fits_init.2.1 8 = .ok (.dup, 1) := by decide +kernel
theorem d_Fits_init_9 : decode M_Fits_init.2.1 9 = .ok (.invokespecial 11, 3) := by decide +kernel
theorem d_Fits_init_12 : decode M_Fits_init.2.1 12 = .ok (.putfield 12, 3) := by decide +kernel
theorem d_Fits_init_15 : decode M_Fits_init.2.1 15 = .ok (.aload_n 0, 1) := by decide +kernel
theorem d_Fits_init_16 : decode M_Fits_init.2.1 16 = .ok (.new 18, 3) := by decide +kernel
theorem d_Fits_init_19 : decode M_Fits_init.2.1 19 = .ok (.dup, 1) := by decide +kernel
theorem d_Fits_init_20 : decode M_Fits_init.2.1 20 = .ok (.invokespecial 20, 3) := by decide +kernel
theorem d_Fits_init_23 : decode M_Fits_init.2.1 23 = .ok (.putfield 21, 3) := by decide +kernel
theorem d_Fits_init_26 : decode M_Fits_init.2.1 26 = .ok (.aload_n 0, 1) := by decide +kernel
theorem d_Fits_init_27 : decode M_Fits_init.2.1 27 = .ok (.bipush 125, 2) := by decide +kernel
theorem d_Fits_init_29 : decode M_Fits_init.2.1 29 = .ok (.newarray .int, 2) := by decide +kernel
theorem d_Fits_init_31 : decode M_Fits_init.2.1 31 = .ok (.putfield 25, 3) := by decide +kernel
theorem d_Fits_init_34 : decode M_Fits_init.2.1 34 = .ok (.aload_n 0, 1) := by decide +kernel
theorem d_Fits_init_35 : decode M_Fits_init.2.1 35 = .ok (.aload_n 1, 1) := by decide +kernel
theorem d_Fits_init_36 : decode M_Fits_init.2.1 36 = .ok (.putfield 29, 3) := by decide +kernel
theorem d_Fits_init_39 : decode M_Fits_init.2.1 39 = .ok (.return_, 1) := by decide +kernel
theorem d_Planner_init_0 : decode M_Planner_init.2.1 0 = .ok (.aload_n 0, 1) := by decide +kernel
theorem d_Planner_init_1 : decode M_Planner_init.2.1 1 = .ok (.invokespecial 3, 3) := by decide +kernel
theorem d_Planner_init_4 : decode M_Planner_init.2.1 4 = .ok (.aload_n 0, 1) := by decide +kernel
theorem d_Planner_init_5 : decode M_Planner_init.2.1 5 = .ok (.new 9, 3) := by decide +kernel
theorem d_Planner_init_8 : decode M_Planner_init.2.1 8 = .ok (.dup, 1) := by decide +kernel
theorem d_Planner_init_9 : decode M_Planner_init.2.1 9 = .ok (.invokespecial 11, 3) := by decide +kernel
theorem d_Planner_init_12 : decode M_Planner_init.2.1 12 = .ok (.putfield 12, 3) := by decide +kernel
theorem d_Planner_init_15 : decode M_Planner_init.2.1 15 = .ok (.aload_n 0, 1) := by decide +kernel
theorem d_Planner_init_16 : decode M_Planner_init.2.1 16 = .ok (.iconst 4, 1) := by decide +kernel
theorem d_Planner_init_17 : decode M_Planner_init.2.1 17 = .ok (.newarray .int, 2) := by decide +kernel
theorem d_Planner_init_19 : decode M_Planner_init.2.1 19 = .ok (.putfield 18, 3) := by decide +kernel
theorem d_Planner_init_22 : decode M_Planner_init.2.1 22 = .ok (.aload_n 0, 1) := by decide +kernel
theorem d_Planner_init_23 : decode M_Planner_init.2.1 23 = .ok (.iconst 4, 1) := by decide +kernel
theorem d_Planner_init_24 : decode M_Planner_init.2.1 24 = .ok (.newarray .int, 2) := by decide +kernel
theorem d_Planner_init_26 : decode M_Planner_init.2.1 26 = .ok (.putfield 22, 3) := by decide +kernel
theorem d_Planner_init_29 : decode M_Planner_init.2.1 29 = .ok (.aload_n 0, 1) := by decide +kernel
theorem d_Planner_init_30 : decode M_Planner_init.2.1 30 = .ok (.bipush 64, 2) := by decide +kernel
theorem d_Planner_init_32 : decode M_Planner_init.2.1 32 = .ok (.newarray .int, 2) := by decide +kernel
theorem d_Planner_init_34 : decode M_Planner_init.2.1 34 = .ok (.putfield 25, 3) := by decide +kernel
theorem d_Planner_init_37 : decode M_Planner_init.2.1 37 = .ok (.aload_n 0, 1) := by decide +kernel
theorem d_Planner_init_38 : decode M_Planner_init.2.1 38 = .ok (.aload_n 1, 1) := by decide +kernel
theorem d_Planner_init_39 : decode M_Planner_init.2.1 39 = .ok (.putfield 28, 3) := by decide +kernel
theorem d_Planner_init_42 : decode M_Planner_init.2.1 42 = .ok (.aload_n 0, 1) := by decide +kernel
theorem d_Planner_init_43 : decode M_Planner_init.2.1 43 = .ok (.aload_n 2, 1) := by decide +kernel
theorem d_Planner_init_44 : decode M_Planner_init.2.1 44 = .ok (.putfield 32, 3) := by decide +kernel
theorem d_Planner_init_47 : decode M_Planner_init.2.1 47 = .ok (.return_, 1) := by decide +kernel
theorem d_Reader_init_0 : decode M_Reader_init.2.1 0 = .ok (.aload_n 0, 1) := by decide +kernel
theorem d_Reader_init_1 : decode M_Reader_init.2.1 1 = .ok (.invokespecial 3, 3) := by decide +kernel
theorem d_Reader_init_4 : decode M_Reader_init.2.1 4 = .ok (.aload_n 0, 1) := by decide +kernel
theorem d_Reader_init_5 : decode M_Reader_init.2.1 5 = .ok (.new 9, 3) := by decide +kernel
theorem d_Reader_init_8 : decode M_Reader_init.2.1 8 = .ok (.dup, 1) := by decide +kernel
theorem d_Reader_init_9 : decode M_Reader_init.2.1 9 = .ok (.invokespecial 11, 3) := by decide +kernel
theorem d_Reader_init_12 : decode M_Reader_init.2.1 12 = .ok (.putfield 12, 3) := by decide +kernel
theorem d_Reader_init_15 : decode M_Reader_init.2.1 15 = .ok (.aload_n 0, 1) := by decide +kernel
theorem d_Reader_init_16 : decode M_Reader_init.2.1 16 = .ok (.new 18, 3) := by decide +kernel
theorem d_Reader_init_19 : decode M_Reader_init.2.1 19 = .ok (.dup, 1) := by decide +kernel
theorem d_Reader_init_20 : decode M_Reader_init.2.1 20 = .ok (.invokespecial 20, 3) := by decide +kernel
theorem d_Reader_init_23 : decode M_Reader_init.2.1 23 = .ok (.putfield 21, 3) := by decide +kernel
theorem d_Reader_init_26 : decode M_Reader_init.2.1 26 = .ok (.aload_n 0, 1) := by decide +kernel
theorem d_Reader_init_27 : decode M_Reader_init.2.1 27 = .ok (.bipush 6, 2) := by decide +kernel
theorem d_Reader_init_29 : decode M_Reader_init.2.1 29 = .ok (.newarray .long, 2) := by decide +kernel
theorem d_Reader_init_31 : decode M_Reader_init.2.1 31 = .ok (.putfield 25, 3) := by decide +kernel
theorem d_Reader_init_34 : decode M_Reader_init.2.1 34 = .ok (.aload_n 0, 1) := by decide +kernel
theorem d_Reader_init_35 : decode M_Reader_init.2.1 35 = .ok (.iconst 5, 1) := by decide +kernel
theorem d_Reader_init_36 : decode M_Reader_init.2.1 36 = .ok (.newarray .long, 2) := by decide +kernel
theorem d_Reader_init_38 : decode M_Reader_init.2.1 38 = .ok (.putfield 29, 3) := by decide +kernel
theorem d_Reader_init_41 : decode M_Reader_init.2.1 41 = .ok (.return_, 1) := by decide +kernel
theorem d_Scene_init_0 : decode M_Scene_init.2.1 0 = .ok (.aload_n 0, 1) := by decide +kernel
theorem d_Scene_init_1 : decode M_Scene_init.2.1 1 = .ok (.invokespecial 3, 3) := by decide +kernel
theorem d_Scene_init_4 : decode M_Scene_init.2.1 4 = .ok (.aload_n 0, 1) := by decide +kernel
theorem d_Scene_init_5 : decode M_Scene_init.2.1 5 = .ok (.bipush 6, 2) := by decide +kernel
theorem d_Scene_init_7 : decode M_Scene_init.2.1 7 = .ok (.newarray .int, 2) := by decide +kernel
theorem d_Scene_init_9 : decode M_Scene_init.2.1 9 = .ok (.putfield 9, 3) := by decide +kernel
theorem d_Scene_init_12 : decode M_Scene_init.2.1 12 = .ok (.aload_n 0, 1) := by decide +kernel
theorem d_Scene_init_13 : decode M_Scene_init.2.1 13 = .ok (.bipush 6, 2) := by decide +kernel
theorem d_Scene_init_15 : decode M_Scene_init.2.1 15 = .ok (.newarray .int, 2) := by decide +kernel
theorem d_Scene_init_17 : decode M_Scene_init.2.1 17 = .ok (.putfield 15, 3) := by decide +kernel
theorem d_Scene_init_20 : decode M_Scene_init.2.1 20 = .ok (.aload_n 0, 1) := by decide +kernel
theorem d_Scene_init_21 : decode M_Scene_init.2.1 21 = .ok (.bipush 6, 2) := by decide +kernel
theorem d_Scene_init_23 : decode M_Scene_init.2.1 23 = .ok (.newarray .int, 2) := by decide +kernel
theorem d_Scene_init_25 : decode M_Scene_init.2.1 25 = .ok (.putfield 18, 3) := by decide +kernel
theorem d_Scene_init_28 : decode M_Scene_init.2.1 28 = .ok (.return_, 1) := by decide +kernel
theorem d_Serving_init_0 : decode M_Serving_init.2.1 0 = .ok (.aload_n 0, 1) := by decide +kernel
theorem d_Serving_init_1 : decode M_Serving_init.2.1 1 = .ok (.invokespecial 3, 3) := by decide +kernel
theorem d_Serving_init_4 : decode M_Serving_init.2.1 4 = .ok (.aload_n 0, 1) := by decide +kernel
theorem d_Serving_init_5 : decode M_Serving_init.2.1 5 = .ok (.new 9, 3) := by decide +kernel
theorem d_Serving_init_8 : decode M_Serving_init.2.1 8 = .ok (.dup, 1) := by decide +kernel
theorem d_Serving_init_9 : decode M_Serving_init.2.1 9 = .ok (.invokespecial 11, 3) := by decide +kernel
theorem d_Serving_init_12 : decode M_Serving_init.2.1 12 = .ok (.putfield 12, 3) := by decide +kernel
theorem d_Serving_init_15 : decode M_Serving_init.2.1 15 = .ok (.aload_n 0, 1) := by decide +kernel
theorem d_Serving_init_16 : decode M_Serving_init.2.1 16 = .ok (.new 18, 3) := by decide +kernel
theorem d_Serving_init_19 : decode M_Serving_init.2.1 19 = .ok (.dup, 1) := by decide +kernel
theorem d_Serving_init_20 : decode M_Serving_init.2.1 20 = .ok (.invokespecial 20, 3) := by decide +kernel
theorem d_Serving_init_23 : decode M_Serving_init.2.1 23 = .ok (.putfield 21, 3) := by decide +kernel
theorem d_Serving_init_26 : decode M_Serving_init.2.1 26 = .ok (.aload_n 0, 1) := by decide +kernel
theorem d_Serving_init_27 : decode M_Serving_init.2.1 27 = .ok (.aload_n 1, 1) := by decide +kernel
theorem d_Serving_init_28 : decode M_Serving_init.2.1 28 = .ok (.putfield 25, 3) := by decide +kernel
theorem d_Serving_init_31 : decode M_Serving_init.2.1 31 = .ok (.return_, 1) := by decide +kernel
theorem d_Snaps_init_0 : decode M_Snaps_init.2.1 0 = .ok (.aload_n 0, 1) := by decide +kernel
theorem d_Snaps_init_1 : decode M_Snaps_init.2.1 1 = .ok (.invokespecial 3, 3) := by decide +kernel
theorem d_Snaps_init_4 : decode M_Snaps_init.2.1 4 = .ok (.aload_n 0, 1) := by decide +kernel
theorem d_Snaps_init_5 : decode M_Snaps_init.2.1 5 = .ok (.iload_n 1, 1) := by decide +kernel
theorem d_Snaps_init_6 : decode M_Snaps_init.2.1 6 = .ok (.ifCond .le 7, 3) := by decide +kernel
theorem d_Snaps_init_9 : decode M_Snaps_init.2.1 9 = .ok (.iload_n 1, 1) := by decide +kernel
theorem d_Snaps_init_10 : decode M_Snaps_init.2.1 10 = .ok (.goto 4, 3) := by decide +kernel
theorem d_Snaps_init_14 : decode M_Snaps_init.2.1 14 = .ok (.putfield 9, 3) := by decide +kernel
theorem d_Snaps_init_17 : decode M_Snaps_init.2.1 17 = .ok (.aload_n 0, 1) := by decide +kernel
theorem d_Snaps_init_18 : decode M_Snaps_init.2.1 18 = .ok (.aload_n 0, 1) := by decide +kernel
theorem d_Snaps_init_19 : decode M_Snaps_init.2.1 19 = .ok (.getfield 9, 3) := by decide +kernel
theorem d_Snaps_init_22 : decode M_Snaps_init.2.1 22 = .ok (.bipush 14, 2) := by decide +kernel
theorem d_Snaps_init_24 : decode M_Snaps_init.2.1 24 = .ok (.imul, 1) := by decide +kernel
theorem d_Snaps_init_25 : decode M_Snaps_init.2.1 25 = .ok (.newarray .int, 2) := by decide +kernel
theorem d_Snaps_init_27 : decode M_Snaps_init.2.1 27 = .ok (.putfield 15, 3) := by decide +kernel
theorem d_Snaps_init_30 : decode M_Snaps_init.2.1 30 = .ok (.return_, 1) := by decide +kernel
theorem d_Tokens_init_0 : decode M_Tokens_init.2.1 0 = .ok (.aload_n 0, 1) := by decide +kernel
theorem d_Tokens_init_1 : decode M_Tokens_init.2.1 1 = .ok (.invokespecial 1, 3) := by decide +kernel
theorem d_Tokens_init_4 : decode M_Tokens_init.2.1 4 = .ok (.aload_n 0, 1) := by decide +kernel
theorem d_Tokens_init_5 : decode M_Tokens_init.2.1 5 = .ok (.iconst 0, 1) := by decide +kernel
theorem d_Tokens_init_6 : decode M_Tokens_init.2.1 6 = .ok (.newarray .byte, 2) := by decide +kernel
theorem d_Tokens_init_8 : decode M_Tokens_init.2.1 8 = .ok (.putfield 7, 3) := by decide +kernel
theorem d_Tokens_init_11 : decode M_Tokens_init.2.1 11 = .ok (.return_, 1) := by decide +kernel
theorem d_Told_init_0 : decode M_Told_init.2.1 0 = .ok (.aload_n 0, 1) := by decide +kernel
theorem d_Told_init_1 : decode M_Told_init.2.1 1 = .ok (.invokespecial 3, 3) := by decide +kernel
theorem d_Told_init_4 : decode M_Told_init.2.1 4 = .ok (.aload_n 0, 1) := by decide +kernel
theorem d_Told_init_5 : decode M_Told_init.2.1 5 = .ok (.new 9, 3) := by decide +kernel
theorem d_Told_init_8 : decode M_Told_init.2.1 8 = .ok (.dup, 1) := by decide +kernel
theorem d_Told_init_9 : decode M_Told_init.2.1 9 = .ok (.invokespecial 11, 3) := by decide +kernel
theorem d_Told_init_12 : decode M_Told_init.2.1 12 = .ok (.putfield 12, 3) := by decide +kernel
theorem d_Told_init_15 : decode M_Told_init.2.1 15 = .ok (.aload_n 0, 1) := by decide +kernel
theorem d_Told_init_16 : decode M_Told_init.2.1 16 = .ok (.iconst 5, 1) := by decide +kernel
theorem d_Told_init_17 : decode M_Told_init.2.1 17 = .ok (.newarray .int, 2) := by decide +kernel
theorem d_Told_init_19 : decode M_Told_init.2.1 19 = .ok (.putfield 18, 3) := by decide +kernel
theorem d_Told_init_22 : decode M_Told_init.2.1 22 = .ok (.aload_n 0, 1) := by decide +kernel
theorem d_Told_init_23 : decode M_Told_init.2.1 23 = .ok (.iconst 5, 1) := by decide +kernel
theorem d_Told_init_24 : decode M_Told_init.2.1 24 = .ok (.newarray .int, 2) := by decide +kernel
theorem d_Told_init_26 : decode M_Told_init.2.1 26 = .ok (.putfield 22, 3) := by decide +kernel
theorem d_Told_init_29 : decode M_Told_init.2.1 29 = .ok (.aload_n 0, 1) := by decide +kernel
theorem d_Told_init_30 : decode M_Told_init.2.1 30 = .ok (.bipush 6, 2) := by decide +kernel
theorem d_Told_init_32 : decode M_Told_init.2.1 32 = .ok (.newarray .int, 2) := by decide +kernel
theorem d_Told_init_34 : decode M_Told_init.2.1 34 = .ok (.putfield 25, 3) := by decide +kernel
theorem d_Told_init_37 : decode M_Told_init.2.1 37 = .ok (.aload_n 0, 1) := by decide +kernel
theorem d_Told_init_38 : decode M_Told_init.2.1 38 = .ok (.iconst 3, 1) := by decide +kernel
theorem d_Told_init_39 : decode M_Told_init.2.1 39 = .ok (.newarray .int, 2) := by decide +kernel
theorem d_Told_init_41 : decode M_Told_init.2.1 41 = .ok (.putfield 28, 3) := by decide +kernel
theorem d_Told_init_44 : decode M_Told_init.2.1 44 = .ok (.aload_n 0, 1) := by decide +kernel
theorem d_Told_init_45 : decode M_Told_init.2.1 45 = .ok (.iconst 5, 1) := by decide +kernel
theorem d_Told_init_46 : decode M_Told_init.2.1 46 = .ok (.newarray .int, 2) := by decide +kernel
theorem d_Told_init_48 : decode M_Told_init.2.1 48 = .ok (.putfield 31, 3) := by decide +kernel
theorem d_Told_init_51 : decode M_Told_init.2.1 51 = .ok (.aload_n 0, 1) := by decide +kernel
theorem d_Told_init_52 : decode M_Told_init.2.1 52 = .ok (.iconst 5, 1) := by decide +kernel
theorem d_Told_init_53 : decode M_Told_init.2.1 53 = .ok (.newarray .int, 2) := by decide +kernel
theorem d_Told_init_55 : decode M_Told_init.2.1 55 = .ok (.putfield 34, 3) := by decide +kernel
theorem d_Told_init_58 : decode M_Told_init.2.1 58 = .ok (.return_, 1) := by decide +kernel
theorem d_Votes_init_0 : decode M_Votes_init.2.1 0 = .ok (.aload_n 0, 1) := by decide +kernel
theorem d_Votes_init_1 : decode M_Votes_init.2.1 1 = .ok (.invokespecial 3, 3) := by decide +kernel
theorem d_Votes_init_4 : decode M_Votes_init.2.1 4 = .ok (.aload_n 0, 1) := by decide +kernel
theorem d_Votes_init_5 : decode M_Votes_init.2.1 5 = .ok (.aload_n 1, 1) := by decide +kernel
theorem d_Votes_init_6 : decode M_Votes_init.2.1 6 = .ok (.putfield 9, 3) := by decide +kernel
theorem d_Votes_init_9 : decode M_Votes_init.2.1 9 = .ok (.return_, 1) := by decide +kernel
theorem d_Winds_init_0 : decode M_Winds_init.2.1 0 = .ok (.aload_n 0, 1) := by decide +kernel
theorem d_Winds_init_1 : decode M_Winds_init.2.1 1 = .ok (.invokespecial 3, 3) := by decide +kernel
theorem d_Winds_init_4 : decode M_Winds_init.2.1 4 = .ok (.aload_n 0, 1) := by decide +kernel
theorem d_Winds_init_5 : decode M_Winds_init.2.1 5 = .ok (.new 9, 3) := by decide +kernel
theorem d_Winds_init_8 : decode M_Winds_init.2.1 8 = .ok (.dup, 1) := by decide +kernel
theorem d_Winds_init_9 : decode M_Winds_init.2.1 9 = .ok (.invokespecial 11, 3) := by decide +kernel
theorem d_Winds_init_12 : decode M_Winds_init.2.1 12 = .ok (.putfield 12, 3) := by decide +kernel
theorem d_Winds_init_15 : decode M_Winds_init.2.1 15 = .ok (.aload_n 0, 1) := by decide +kernel
theorem d_Winds_init_16 : decode M_Winds_init.2.1 16 = .ok (.aload_n 1, 1) := by decide +kernel
theorem d_Winds_init_17 : decode M_Winds_init.2.1 17 = .ok (.putfield 18, 3) := by decide +kernel
theorem d_Winds_init_20 : decode M_Winds_init.2.1 20 = .ok (.return_, 1) := by decide +kernel
theorem d_Fs_init_0 : decode M_Fs_init.2.1 0 = .ok (.aload_n 0, 1) := by decide +kernel
theorem d_Fs_init_1 : decode M_Fs_init.2.1 1 = .ok (.invokespecial 1, 3) := by decide +kernel
theorem d_Fs_init_4 : decode M_Fs_init.2.1 4 = .ok (.aload_n 0, 1) := by decide +kernel
theorem d_Fs_init_5 : decode M_Fs_init.2.1 5 = .ok (.sipush 900, 3) := by decide +kernel
theorem d_Fs_init_8 : decode M_Fs_init.2.1 8 = .ok (.newarray .byte, 2) := by decide +kernel
theorem d_Fs_init_10 : decode M_Fs_init.2.1 10 = .ok (.putfield 9, 3) := by decide +kernel
theorem d_Fs_init_13 : decode M_Fs_init.2.1 13 = .ok (.aload_n 0, 1) := by decide +kernel
theorem d_Fs_init_14 : decode M_Fs_init.2.1 14 = .ok (.new 13, 3) := by decide +kernel
theorem d_Fs_init_17 : decode M_Fs_init.2.1 17 = .ok (.dup, 1) := by decide +kernel
theorem d_Fs_init_18 : decode M_Fs_init.2.1 18 = .ok (.invokespecial 15, 3) := by decide +kernel
theorem d_Fs_init_21 : decode M_Fs_init.2.1 21 = .ok (.putfield 16, 3) := by decide +kernel
theorem d_Fs_init_24 : decode M_Fs_init.2.1 24 = .ok (.aload_n 0, 1) := by decide +kernel
theorem d_Fs_init_25 : decode M_Fs_init.2.1 25 = .ok (.new 20, 3) := by decide +kernel
theorem d_Fs_init_28 : decode M_Fs_init.2.1 28 = .ok (.dup, 1) := by decide +kernel
theorem d_Fs_init_29 : decode M_Fs_init.2.1 29 = .ok (.invokespecial 22, 3) := by decide +kernel
theorem d_Fs_init_32 : decode M_Fs_init.2.1 32 = .ok (.putfield 23, 3) := by decide +kernel
theorem d_Fs_init_35 : decode M_Fs_init.2.1 35 = .ok (.aload_n 0, 1) := by decide +kernel
theorem d_Fs_init_36 : decode M_Fs_init.2.1 36 = .ok (.new 27, 3) := by decide +kernel
theorem d_Fs_init_39 : decode M_Fs_init.2.1 39 = .ok (.dup, 1) := by decide +kernel
theorem d_Fs_init_40 : decode M_Fs_init.2.1 40 = .ok (.invokespecial 29, 3) := by decide +kernel
theorem d_Fs_init_43 : decode M_Fs_init.2.1 43 = .ok (.putfield 30, 3) := by decide +kernel
theorem d_Fs_init_46 : decode M_Fs_init.2.1 46 = .ok (.aload_n 0, 1) := by decide +kernel
theorem d_Fs_init_47 : decode M_Fs_init.2.1 47 = .ok (.new 27, 3) := by decide +kernel
theorem d_Fs_init_50 : decode M_Fs_init.2.1 50 = .ok (.dup, 1) := by decide +kernel
theorem d_Fs_init_51 : decode M_Fs_init.2.1 51 = .ok (.invokespecial 29, 3) := by decide +kernel
theorem d_Fs_init_54 : decode M_Fs_init.2.1 54 = .ok (.putfield 34, 3) := by decide +kernel
theorem d_Fs_init_57 : decode M_Fs_init.2.1 57 = .ok (.aload_n 0, 1) := by decide +kernel
theorem d_Fs_init_58 : decode M_Fs_init.2.1 58 = .ok (.new 37, 3) := by decide +kernel
theorem d_Fs_init_61 : decode M_Fs_init.2.1 61 = .ok (.dup, 1) := by decide +kernel
theorem d_Fs_init_62 : decode M_Fs_init.2.1 62 = .ok (.invokespecial 39, 3) := by decide +kernel
theorem d_Fs_init_65 : decode M_Fs_init.2.1 65 = .ok (.putfield 40, 3) := by decide +kernel
theorem d_Fs_init_68 : decode M_Fs_init.2.1 68 = .ok (.aload_n 0, 1) := by decide +kernel
theorem d_Fs_init_69 : decode M_Fs_init.2.1 69 = .ok (.new 44, 3) := by decide +kernel
theorem d_Fs_init_72 : decode M_Fs_init.2.1 72 = .ok (.dup, 1) := by decide +kernel
theorem d_Fs_init_73 : decode M_Fs_init.2.1 73 = .ok (.aload_n 0, 1) := by decide +kernel
theorem d_Fs_init_74 : decode M_Fs_init.2.1 74 = .ok (.getfield 16, 3) := by decide +kernel
theorem d_Fs_init_77 : decode M_Fs_init.2.1 77 = .ok (.invokespecial 46, 3) := by decide +kernel
theorem d_Fs_init_80 : decode M_Fs_init.2.1 80 = .ok (.putfield 49, 3) := by decide +kernel
theorem d_Fs_init_83 : decode M_Fs_init.2.1 83 = .ok (.aload_n 0, 1) := by decide +kernel
theorem d_Fs_init_84 : decode M_Fs_init.2.1 84 = .ok (.new 53, 3) := by decide +kernel
theorem d_Fs_init_87 : decode M_Fs_init.2.1 87 = .ok (.dup, 1) := by decide +kernel
theorem d_Fs_init_88 : decode M_Fs_init.2.1 88 = .ok (.aload_n 0, 1) := by decide +kernel
theorem d_Fs_init_89 : decode M_Fs_init.2.1 89 = .ok (.getfield 16, 3) := by decide +kernel
theorem d_Fs_init_92 : decode M_Fs_init.2.1 92 = .ok (.aload_n 0, 1) := by decide +kernel
theorem d_Fs_init_93 : decode M_Fs_init.2.1 93 = .ok (.getfield 49, 3) := by decide +kernel
theorem d_Fs_init_96 : decode M_Fs_init.2.1 96 = .ok (.invokespecial 55, 3) := by decide +kernel
theorem d_Fs_init_99 : decode M_Fs_init.2.1 99 = .ok (.putfield 58, 3) := by decide +kernel
theorem d_Fs_init_102 : decode M_Fs_init.2.1 102 = .ok (.aload_n 0, 1) := by decide +kernel
theorem d_Fs_init_103 : decode M_Fs_init.2.1 103 = .ok (.new 62, 3) := by decide +kernel
theorem d_Fs_init_106 : decode M_Fs_init.2.1 106 = .ok (.dup, 1) := by decide +kernel
theorem d_Fs_init_107 : decode M_Fs_init.2.1 107 = .ok (.aload_n 0, 1) := by decide +kernel
theorem d_Fs_init_108 : decode M_Fs_init.2.1 108 = .ok (.getfield 16, 3) := by decide +kernel
theorem d_Fs_init_111 : decode M_Fs_init.2.1 111 = .ok (.invokespecial 64, 3) := by decide +kernel
theorem d_Fs_init_114 : decode M_Fs_init.2.1 114 = .ok (.putfield 65, 3) := by decide +kernel
theorem d_Fs_init_117 : decode M_Fs_init.2.1 117 = .ok (.aload_n 0, 1) := by decide +kernel
theorem d_Fs_init_118 : decode M_Fs_init.2.1 118 = .ok (.new 69, 3) := by decide +kernel
theorem d_Fs_init_121 : decode M_Fs_init.2.1 121 = .ok (.dup, 1) := by decide +kernel
theorem d_Fs_init_122 : decode M_Fs_init.2.1 122 = .ok (.aload_n 0, 1) := by decide +kernel
theorem d_Fs_init_123 : decode M_Fs_init.2.1 123 = .ok (.getfield 16, 3) := by decide +kernel
theorem d_Fs_init_126 : decode M_Fs_init.2.1 126 = .ok (.invokespecial 71, 3) := by decide +kernel
theorem d_Fs_init_129 : decode M_Fs_init.2.1 129 = .ok (.putfield 72, 3) := by decide +kernel
theorem d_Fs_init_132 : decode M_Fs_init.2.1 132 = .ok (.aload_n 0, 1) := by decide +kernel
theorem d_Fs_init_133 : decode M_Fs_init.2.1 133 = .ok (.new 76, 3) := by decide +kernel
theorem d_Fs_init_136 : decode M_Fs_init.2.1 136 = .ok (.dup, 1) := by decide +kernel
theorem d_Fs_init_137 : decode M_Fs_init.2.1 137 = .ok (.aload_n 0, 1) := by decide +kernel
theorem d_Fs_init_138 : decode M_Fs_init.2.1 138 = .ok (.getfield 16, 3) := by decide +kernel
theorem d_Fs_init_141 : decode M_Fs_init.2.1 141 = .ok (.invokespecial 78, 3) := by decide +kernel
theorem d_Fs_init_144 : decode M_Fs_init.2.1 144 = .ok (.putfield 79, 3) := by decide +kernel
theorem d_Fs_init_147 : decode M_Fs_init.2.1 147 = .ok (.aload_n 0, 1) := by decide +kernel
theorem d_Fs_init_148 : decode M_Fs_init.2.1 148 = .ok (.new 83, 3) := by decide +kernel
theorem d_Fs_init_151 : decode M_Fs_init.2.1 151 = .ok (.dup, 1) := by decide +kernel
theorem d_Fs_init_152 : decode M_Fs_init.2.1 152 = .ok (.bipush 16, 2) := by decide +kernel
theorem d_Fs_init_154 : decode M_Fs_init.2.1 154 = .ok (.invokespecial 85, 3) := by decide +kernel
theorem d_Fs_init_157 : decode M_Fs_init.2.1 157 = .ok (.putfield 88, 3) := by decide +kernel
theorem d_Fs_init_160 : decode M_Fs_init.2.1 160 = .ok (.aload_n 0, 1) := by decide +kernel
theorem d_Fs_init_161 : decode M_Fs_init.2.1 161 = .ok (.new 83, 3) := by decide +kernel
theorem d_Fs_init_164 : decode M_Fs_init.2.1 164 = .ok (.dup, 1) := by decide +kernel
theorem d_Fs_init_165 : decode M_Fs_init.2.1 165 = .ok (.iconst 3, 1) := by decide +kernel
theorem d_Fs_init_166 : decode M_Fs_init.2.1 166 = .ok (.invokespecial 85, 3) := by decide +kernel
theorem d_Fs_init_169 : decode M_Fs_init.2.1 169 = .ok (.putfield 92, 3) := by decide +kernel
theorem d_Fs_init_172 : decode M_Fs_init.2.1 172 = .ok (.return_, 1) := by decide +kernel
theorem d_Mo_init_0 : decode M_Mo_init.2.1 0 = .ok (.aload_n 0, 1) := by decide +kernel
theorem d_Mo_init_1 : decode M_Mo_init.2.1 1 = .ok (.invokespecial 1, 3) := by decide +kernel
theorem d_Mo_init_4 : decode M_Mo_init.2.1 4 = .ok (.aload_n 0, 1) := by decide +kernel
theorem d_Mo_init_5 : decode M_Mo_init.2.1 5 = .ok (.sipush 900, 3) := by decide +kernel
theorem d_Mo_init_8 : decode M_Mo_init.2.1 8 = .ok (.newarray .int, 2) := by decide +kernel
theorem d_Mo_init_10 : decode M_Mo_init.2.1 10 = .ok (.putfield 7, 3) := by decide +kernel
theorem d_Mo_init_13 : decode M_Mo_init.2.1 13 = .ok (.aload_n 0, 1) := by decide +kernel
theorem d_Mo_init_14 : decode M_Mo_init.2.1 14 = .ok (.iconst (-1), 1) := by decide +kernel
theorem d_Mo_init_15 : decode M_Mo_init.2.1 15 = .ok (.putfield 13, 3) := by decide +kernel
theorem d_Mo_init_18 : decode M_Mo_init.2.1 18 = .ok (.aload_n 0, 1) := by decide +kernel
theorem d_Mo_init_19 : decode M_Mo_init.2.1 19 = .ok (.bipush 8, 2) := by decide +kernel
theorem d_Mo_init_21 : decode M_Mo_init.2.1 21 = .ok (.newarray .int, 2) := by decide +kernel
theorem d_Mo_init_23 : decode M_Mo_init.2.1 23 = .ok (.putfield 17, 3) := by decide +kernel
theorem d_Mo_init_26 : decode M_Mo_init.2.1 26 = .ok (.aload_n 0, 1) := by decide +kernel
theorem d_Mo_init_27 : decode M_Mo_init.2.1 27 = .ok (.sipush 146, 3) := by decide +kernel
theorem d_Mo_init_30 : decode M_Mo_init.2.1 30 = .ok (.newarray .int, 2) := by decide +kernel
theorem d_Mo_init_32 : decode M_Mo_init.2.1 32 = .ok (.putfield 20, 3) := by decide +kernel
theorem d_Mo_init_35 : decode M_Mo_init.2.1 35 = .ok (.aload_n 0, 1) := by decide +kernel
theorem d_Mo_init_36 : decode M_Mo_init.2.1 36 = .ok (.sipush 146, 3) := by decide +kernel
theorem d_Mo_init_39 : decode M_Mo_init.2.1 39 = .ok (.newarray .int, 2) := by decide +kernel
theorem d_Mo_init_41 : decode M_Mo_init.2.1 41 = .ok (.putfield 23, 3) := by decide +kernel
theorem d_Mo_init_44 : decode M_Mo_init.2.1 44 = .ok (.aload_n 0, 1) := by decide +kernel
theorem d_Mo_init_45 : decode M_Mo_init.2.1 45 = .ok (.bipush 14, 2) := by decide +kernel
theorem d_Mo_init_47 : decode M_Mo_init.2.1 47 = .ok (.newarray .int, 2) := by decide +kernel
theorem d_Mo_init_49 : decode M_Mo_init.2.1 49 = .ok (.putfield 26, 3) := by decide +kernel
theorem d_Mo_init_52 : decode M_Mo_init.2.1 52 = .ok (.aload_n 0, 1) := by decide +kernel
theorem d_Mo_init_53 : decode M_Mo_init.2.1 53 = .ok (.bipush 14, 2) := by decide +kernel
theorem d_Mo_init_55 : decode M_Mo_init.2.1 55 = .ok (.newarray .int, 2) := by decide +kernel
theorem d_Mo_init_57 : decode M_Mo_init.2.1 57 = .ok (.putfield 29, 3) := by decide +kernel
theorem d_Mo_init_60 : decode M_Mo_init.2.1 60 = .ok (.aload_n 0, 1) := by decide +kernel
theorem d_Mo_init_61 : decode M_Mo_init.2.1 61 = .ok (.bipush 14, 2) := by decide +kernel
theorem d_Mo_init_63 : decode M_Mo_init.2.1 63 = .ok (.newarray .int, 2) := by decide +kernel
theorem d_Mo_init_65 : decode M_Mo_init.2.1 65 = .ok (.putfield 32, 3) := by decide +kernel
theorem d_Mo_init_68 : decode M_Mo_init.2.1 68 = .ok (.aload_n 0, 1) := by decide +kernel
theorem d_Mo_init_69 : decode M_Mo_init.2.1 69 = .ok (.sipush 224, 3) := by decide +kernel
theorem d_Mo_init_72 : decode M_Mo_init.2.1 72 = .ok (.newarray .int, 2) := by decide +kernel
theorem d_Mo_init_74 : decode M_Mo_init.2.1 74 = .ok (.putfield 35, 3) := by decide +kernel
theorem d_Mo_init_77 : decode M_Mo_init.2.1 77 = .ok (.aload_n 0, 1) := by decide +kernel
theorem d_Mo_init_78 : decode M_Mo_init.2.1 78 = .ok (.bipush 42, 2) := by decide +kernel
theorem d_Mo_init_80 : decode M_Mo_init.2.1 80 = .ok (.newarray .int, 2) := by decide +kernel
theorem d_Mo_init_82 : decode M_Mo_init.2.1 82 = .ok (.putfield 38, 3) := by decide +kernel
theorem d_Mo_init_85 : decode M_Mo_init.2.1 85 = .ok (.aload_n 0, 1) := by decide +kernel
theorem d_Mo_init_86 : decode M_Mo_init.2.1 86 = .ok (.bipush 6, 2) := by decide +kernel
theorem d_Mo_init_88 : decode M_Mo_init.2.1 88 = .ok (.newarray .int, 2) := by decide +kernel
theorem d_Mo_init_90 : decode M_Mo_init.2.1 90 = .ok (.putfield 41, 3) := by decide +kernel
theorem d_Mo_init_93 : decode M_Mo_init.2.1 93 = .ok (.aload_n 0, 1) := by decide +kernel
theorem d_Mo_init_94 : decode M_Mo_init.2.1 94 = .ok (.bipush 6, 2) := by decide +kernel
theorem d_Mo_init_96 : decode M_Mo_init.2.1 96 = .ok (.newarray .int, 2) := by decide +kernel
theorem d_Mo_init_98 : decode M_Mo_init.2.1 98 = .ok (.putfield 44, 3) := by decide +kernel
theorem d_Mo_init_101 : decode M_Mo_init.2.1 101 = .ok (.aload_n 0, 1) := by decide +kernel
theorem d_Mo_init_102 : decode M_Mo_init.2.1 102 = .ok (.bipush 14, 2) := by decide +kernel
theorem d_Mo_init_104 : decode M_Mo_init.2.1 104 = .ok (.newarray .int, 2) := by decide +kernel
theorem d_Mo_init_106 : decode M_Mo_init.2.1 106 = .ok (.putfield 47, 3) := by decide +kernel
theorem d_Mo_init_109 : decode M_Mo_init.2.1 109 = .ok (.aload_n 0, 1) := by decide +kernel
theorem d_Mo_init_110 : decode M_Mo_init.2.1 110 = .ok (.bipush 36, 2) := by decide +kernel
theorem d_Mo_init_112 : decode M_Mo_init.2.1 112 = .ok (.newarray .int, 2) := by decide +kernel
theorem d_Mo_init_114 : decode M_Mo_init.2.1 114 = .ok (.putfield 50, 3) := by decide +kernel
theorem d_Mo_init_117 : decode M_Mo_init.2.1 117 = .ok (.return_, 1) := by decide +kernel
set_option maxRecDepth 8000 in
theorem n_Scene_init_3 {d : Nat} {I : Nat → Nat → Int32} {J : Nat → Nat → Int64} {R : Nat → Nat → Option Nat} {Q : ow_H → Prop} (hz : ow_zz 4 I J R) (T : ow_zz 7 I J (ow_u (ow_u (ow_u R 3 3 (some 4)) 3 4 (some 5)) 3 5 (some 6)) → Q (7, I, J, (ow_u (ow_u (ow_u R 3 3 (some 4)) 3 4 (some 5)) 3 5 (some 6)))) : ow_AN M_Scene_init (d + 1) 3 18 [.ref 3] (4, I, J, R) Q := by
  refine ow_enterN (by decide) (Nat.le_of_ble_eq_true rfl) ?_
  show ow_AW ow_Y1 (ow_Zn Q 3 18) M_Scene_init (d + 1) 3 18 0 [(0, .ref 3)] [] (4, I, J, R) 0 0
  refine ow_aload_n 0 rfl d_Scene_init_0 ?_
  refine ow_obj d_Scene_init_1 wo_Scene_3 wo_1 wo_2 (by omega) (Nat.le_of_ble_eq_true rfl) ?_
  refine ow_aload_n 0 rfl d_Scene_init_4 ?_
  refine ow_bipush (v := 6) (by decide) d_Scene_init_5 ?_
  refine ow_newaI (N := 6) d_Scene_init_7 wa_int rfl rfl rfl (by decide) hz rfl rfl (by decide) (by decide) (by decide) ?_
  replace hz := ow_zz_n hz
  refine ow_pF 13 d_Scene_init_9 rfl rfl rfl rfl (by decide) rfl rfl (fun _ => ⟨rfl, rfl⟩) rfl ?_
  replace hz := ow_zz_R (o := 3) (k := 3) (r := 4) hz (by decide) (by decide)
  show ow_AW ow_Y1 (ow_Zn Q 3 18) M_Scene_init (d + 1) 3 18 12 [(0, .ref 3)] [] (5, I, J, (ow_u R 3 3 (some 4))) _ _
  refine ow_aload_n 0 rfl d_Scene_init_12 ?_
  refine ow_bipush (v := 6) (by decide) d_Scene_init_13 ?_
  refine ow_newaI (N := 6) d_Scene_init_15 wa_int rfl rfl rfl (by decide) hz rfl rfl (by decide) (by decide) (by decide) ?_
  replace hz := ow_zz_n hz
  refine ow_pF 16 d_Scene_init_17 rfl rfl rfl rfl (by decide) rfl rfl (fun _ => ⟨rfl, rfl⟩) rfl ?_
  replace hz := ow_zz_R (o := 3) (k := 4) (r := 5) hz (by decide) (by decide)
  show ow_AW ow_Y1 (ow_Zn Q 3 18) M_Scene_init (d + 1) 3 18 20 [(0, .ref 3)] [] (6, I, J, (ow_u (ow_u R 3 3 (some 4)) 3 4 (some 5))) _ _
  refine ow_aload_n 0 rfl d_Scene_init_20 ?_
  refine ow_bipush (v := 6) (by decide) d_Scene_init_21 ?_
  refine ow_newaI (N := 6) d_Scene_init_23 wa_int rfl rfl rfl (by decide) hz rfl rfl (by decide) (by decide) (by decide) ?_
  replace hz := ow_zz_n hz
  refine ow_pF 21 d_Scene_init_25 rfl rfl rfl rfl (by decide) rfl rfl (fun _ => ⟨rfl, rfl⟩) rfl ?_
  replace hz := ow_zz_R (o := 3) (k := 5) (r := 6) hz (by decide) (by decide)
  show ow_AW ow_Y1 (ow_Zn Q 3 18) M_Scene_init (d + 1) 3 18 28 [(0, .ref 3)] [] (7, I, J, (ow_u (ow_u (ow_u R 3 3 (some 4)) 3 4 (some 5)) 3 5 (some 6))) _ _
  exact ow_vretN d_Scene_init_28 rfl (by decide) (by decide) (T hz)
set_option maxRecDepth 8000 in
theorem n_Told_init_2 {d : Nat} {I : Nat → Nat → Int32} {J : Nat → Nat → Int64} {R : Nat → Nat → Option Nat} {Q : ow_H → Prop} (hz : ow_zz 3 I J R) (T : ow_zz 13 I J (ow_u (ow_u (ow_u (ow_u (ow_u (ow_u (ow_u (ow_u (ow_u (ow_u R 3 3 (some 4)) 3 4 (some 5)) 3 5 (some 6)) 2 2 (some 3)) 2 4 (some 7)) 2 5 (some 8)) 2 6 (some 9)) 2 8 (some 10)) 2 10 (some 11)) 2 11 (some 12)) → Q (13, I, J, (ow_u (ow_u (ow_u (ow_u (ow_u (ow_u (ow_u (ow_u (ow_u (ow_u R 3 3 (some 4)) 3 4 (some 5)) 3 5 (some 6)) 2 2 (some 3)) 2 4 (some 7)) 2 5 (some 8)) 2 6 (some 9)) 2 8 (some 10)) 2 10 (some 11)) 2 11 (some 12)))) : ow_AN M_Told_init (d + 2) 10 53 [.ref 2] (3, I, J, R) Q := by
  refine ow_enterN (by decide) (Nat.le_of_ble_eq_true rfl) ?_
  show ow_AW ow_Y1 (ow_Zn Q 10 53) M_Told_init (d + 2) 10 53 0 [(0, .ref 2)] [] (3, I, J, R) 0 0
  refine ow_aload_n 0 rfl d_Told_init_0 ?_
  refine ow_obj d_Told_init_1 wo_Told_3 wo_1 wo_2 (by omega) (Nat.le_of_ble_eq_true rfl) ?_
  refine ow_aload_n 0 rfl d_Told_init_4 ?_
  refine ow_new (ci := 4) d_Told_init_5 wl_Told_9 wi_4 wz_4 rfl (by decide) hz rfl rfl (by decide) (by decide) (by decide) ?_
  replace hz := ow_zz_n hz
  refine ow_dup rfl d_Told_init_8 ?_
  refine ow_callN (M2 := M_Scene_init) (d2 := d + 1) (mc2 := 3) (ms2 := 18) (b := 3) (As := []) (rest := [.ref 3, .ref 2]) d_Told_init_9 1 rfl b_Scene_init bi_Scene_init rfl rfl (Nat.le_of_ble_eq_true rfl) (by omega) (by decide) (by decide) rfl rfl (n_Scene_init_3 (d := d + 0) hz (fun hz1 => ⟨show 7 ≤ 4 + 3 by decide, ?_⟩))
  replace hz := hz1
  clear hz1
  show ow_AW ow_Y1 (ow_Zn Q 10 53) M_Told_init (d + 2) 10 53 12 [(0, .ref 2)] [.ref 3, .ref 2] (7, I, J, (ow_u (ow_u (ow_u R 3 3 (some 4)) 3 4 (some 5)) 3 5 (some 6))) _ _
  refine ow_pF 34 d_Told_init_12 rfl rfl rfl rfl (by decide) rfl rfl (fun _ => ⟨rfl, rfl⟩) rfl ?_
  replace hz := ow_zz_R (o := 2) (k := 2) (r := 3) hz (by decide) (by decide)
  show ow_AW ow_Y1 (ow_Zn Q 10 53) M_Told_init (d + 2) 10 53 15 [(0, .ref 2)] [] (7, I, J, (ow_u (ow_u (ow_u (ow_u R 3 3 (some 4)) 3 4 (some 5)) 3 5 (some 6)) 2 2 (some 3))) _ _
  refine ow_aload_n 0 rfl d_Told_init_15 ?_
  refine ow_iconst (v := 5) (by decide) d_Told_init_16 ?_
  refine ow_newaI (N := 5) d_Told_init_17 wa_int rfl rfl rfl (by decide) hz rfl rfl (by decide) (by decide) (by decide) ?_
  replace hz := ow_zz_n hz
  refine ow_pF 43 d_Told_init_19 rfl rfl rfl rfl (by decide) rfl rfl (fun _ => ⟨rfl, rfl⟩) rfl ?_
  replace hz := ow_zz_R (o := 2) (k := 4) (r := 7) hz (by decide) (by decide)
  show ow_AW ow_Y1 (ow_Zn Q 10 53) M_Told_init (d + 2) 10 53 22 [(0, .ref 2)] [] (8, I, J, (ow_u (ow_u (ow_u (ow_u (ow_u R 3 3 (some 4)) 3 4 (some 5)) 3 5 (some 6)) 2 2 (some 3)) 2 4 (some 7))) _ _
  refine ow_aload_n 0 rfl d_Told_init_22 ?_
  refine ow_iconst (v := 5) (by decide) d_Told_init_23 ?_
  refine ow_newaI (N := 5) d_Told_init_24 wa_int rfl rfl rfl (by decide) hz rfl rfl (by decide) (by decide) (by decide) ?_
  replace hz := ow_zz_n hz
  refine ow_pF 45 d_Told_init_26 rfl rfl rfl rfl (by decide) rfl rfl (fun _ => ⟨rfl, rfl⟩) rfl ?_
  replace hz := ow_zz_R (o := 2) (k := 5) (r := 8) hz (by decide) (by decide)
  show ow_AW ow_Y1 (ow_Zn Q 10 53) M_Told_init (d + 2) 10 53 29 [(0, .ref 2)] [] (9, I, J, (ow_u (ow_u (ow_u (ow_u (ow_u (ow_u R 3 3 (some 4)) 3 4 (some 5)) 3 5 (some 6)) 2 2 (some 3)) 2 4 (some 7)) 2 5 (some 8))) _ _
  refine ow_aload_n 0 rfl d_Told_init_29 ?_
  refine ow_bipush (v := 6) (by decide) d_Told_init_30 ?_
  refine ow_newaI (N := 6) d_Told_init_32 wa_int rfl rfl rfl (by decide) hz rfl rfl (by decide) (by decide) (by decide) ?_
  replace hz := ow_zz_n hz
  refine ow_pF 48 d_Told_init_34 rfl rfl rfl rfl (by decide) rfl rfl (fun _ => ⟨rfl, rfl⟩) rfl ?_
  replace hz := ow_zz_R (o := 2) (k := 6) (r := 9) hz (by decide) (by decide)
  show ow_AW ow_Y1 (ow_Zn Q 10 53) M_Told_init (d + 2) 10 53 37 [(0, .ref 2)] [] (10, I, J, (ow_u (ow_u (ow_u (ow_u (ow_u (ow_u (ow_u R 3 3 (some 4)) 3 4 (some 5)) 3 5 (some 6)) 2 2 (some 3)) 2 4 (some 7)) 2 5 (some 8)) 2 6 (some 9))) _ _
  refine ow_aload_n 0 rfl d_Told_init_37 ?_
  refine ow_iconst (v := 3) (by decide) d_Told_init_38 ?_
  refine ow_newaI (N := 3) d_Told_init_39 wa_int rfl rfl rfl (by decide) hz rfl rfl (by decide) (by decide) (by decide) ?_
  replace hz := ow_zz_n hz
  refine ow_pF 55 d_Told_init_41 rfl rfl rfl rfl (by decide) rfl rfl (fun _ => ⟨rfl, rfl⟩) rfl ?_
  replace hz := ow_zz_R (o := 2) (k := 8) (r := 10) hz (by decide) (by decide)
  show ow_AW ow_Y1 (ow_Zn Q 10 53) M_Told_init (d + 2) 10 53 44 [(0, .ref 2)] [] (11, I, J, (ow_u (ow_u (ow_u (ow_u (ow_u (ow_u (ow_u (ow_u R 3 3 (some 4)) 3 4 (some 5)) 3 5 (some 6)) 2 2 (some 3)) 2 4 (some 7)) 2 5 (some 8)) 2 6 (some 9)) 2 8 (some 10))) _ _
  refine ow_aload_n 0 rfl d_Told_init_44 ?_
  refine ow_iconst (v := 5) (by decide) d_Told_init_45 ?_
  refine ow_newaI (N := 5) d_Told_init_46 wa_int rfl rfl rfl (by decide) hz rfl rfl (by decide) (by decide) (by decide) ?_
  replace hz := ow_zz_n hz
  refine ow_pF 61 d_Told_init_48 rfl rfl rfl rfl (by decide) rfl rfl (fun _ => ⟨rfl, rfl⟩) rfl ?_
  replace hz := ow_zz_R (o := 2) (k := 10) (r := 11) hz (by decide) (by decide)
  show ow_AW ow_Y1 (ow_Zn Q 10 53) M_Told_init (d + 2) 10 53 51 [(0, .ref 2)] [] (12, I, J, (ow_u (ow_u (ow_u (ow_u (ow_u (ow_u (ow_u (ow_u (ow_u R 3 3 (some 4)) 3 4 (some 5)) 3 5 (some 6)) 2 2 (some 3)) 2 4 (some 7)) 2 5 (some 8)) 2 6 (some 9)) 2 8 (some 10)) 2 10 (some 11))) _ _
  refine ow_aload_n 0 rfl d_Told_init_51 ?_
  refine ow_iconst (v := 5) (by decide) d_Told_init_52 ?_
  refine ow_newaI (N := 5) d_Told_init_53 wa_int rfl rfl rfl (by decide) hz rfl rfl (by decide) (by decide) (by decide) ?_
  replace hz := ow_zz_n hz
  refine ow_pF 63 d_Told_init_55 rfl rfl rfl rfl (by decide) rfl rfl (fun _ => ⟨rfl, rfl⟩) rfl ?_
  replace hz := ow_zz_R (o := 2) (k := 11) (r := 12) hz (by decide) (by decide)
  show ow_AW ow_Y1 (ow_Zn Q 10 53) M_Told_init (d + 2) 10 53 58 [(0, .ref 2)] [] (13, I, J, (ow_u (ow_u (ow_u (ow_u (ow_u (ow_u (ow_u (ow_u (ow_u (ow_u R 3 3 (some 4)) 3 4 (some 5)) 3 5 (some 6)) 2 2 (some 3)) 2 4 (some 7)) 2 5 (some 8)) 2 6 (some 9)) 2 8 (some 10)) 2 10 (some 11)) 2 11 (some 12))) _ _
  exact ow_vretN d_Told_init_58 rfl (by decide) (by decide) (T hz)
set_option maxRecDepth 8000 in
theorem n_Scene_init_15 {d : Nat} {I : Nat → Nat → Int32} {J : Nat → Nat → Int64} {R : Nat → Nat → Option Nat} {Q : ow_H → Prop} (hz : ow_zz 16 I J R) (T : ow_zz 19 I J (ow_u (ow_u (ow_u R 15 3 (some 16)) 15 4 (some 17)) 15 5 (some 18)) → Q (19, I, J, (ow_u (ow_u (ow_u R 15 3 (some 16)) 15 4 (some 17)) 15 5 (some 18)))) : ow_AN M_Scene_init (d + 1) 3 18 [.ref 15] (16, I, J, R) Q := by
  refine ow_enterN (by decide) (Nat.le_of_ble_eq_true rfl) ?_
  show ow_AW ow_Y1 (ow_Zn Q 3 18) M_Scene_init (d + 1) 3 18 0 [(0, .ref 15)] [] (16, I, J, R) 0 0
  refine ow_aload_n 0 rfl d_Scene_init_0 ?_
  refine ow_obj d_Scene_init_1 wo_Scene_3 wo_1 wo_2 (by omega) (Nat.le_of_ble_eq_true rfl) ?_
  refine ow_aload_n 0 rfl d_Scene_init_4 ?_
  refine ow_bipush (v := 6) (by decide) d_Scene_init_5 ?_
  refine ow_newaI (N := 6) d_Scene_init_7 wa_int rfl rfl rfl (by decide) hz rfl rfl (by decide) (by decide) (by decide) ?_
  replace hz := ow_zz_n hz
  refine ow_pF 13 d_Scene_init_9 rfl rfl rfl rfl (by decide) rfl rfl (fun _ => ⟨rfl, rfl⟩) rfl ?_
  replace hz := ow_zz_R (o := 15) (k := 3) (r := 16) hz (by decide) (by decide)
  show ow_AW ow_Y1 (ow_Zn Q 3 18) M_Scene_init (d + 1) 3 18 12 [(0, .ref 15)] [] (17, I, J, (ow_u R 15 3 (some 16))) _ _
  refine ow_aload_n 0 rfl d_Scene_init_12 ?_
  refine ow_bipush (v := 6) (by decide) d_Scene_init_13 ?_
  refine ow_newaI (N := 6) d_Scene_init_15 wa_int rfl rfl rfl (by decide) hz rfl rfl (by decide) (by decide) (by decide) ?_
  replace hz := ow_zz_n hz
  refine ow_pF 16 d_Scene_init_17 rfl rfl rfl rfl (by decide) rfl rfl (fun _ => ⟨rfl, rfl⟩) rfl ?_
  replace hz := ow_zz_R (o := 15) (k := 4) (r := 17) hz (by decide) (by decide)
  show ow_AW ow_Y1 (ow_Zn Q 3 18) M_Scene_init (d + 1) 3 18 20 [(0, .ref 15)] [] (18, I, J, (ow_u (ow_u R 15 3 (some 16)) 15 4 (some 17))) _ _
  refine ow_aload_n 0 rfl d_Scene_init_20 ?_
  refine ow_bipush (v := 6) (by decide) d_Scene_init_21 ?_
  refine ow_newaI (N := 6) d_Scene_init_23 wa_int rfl rfl rfl (by decide) hz rfl rfl (by decide) (by decide) (by decide) ?_
  replace hz := ow_zz_n hz
  refine ow_pF 21 d_Scene_init_25 rfl rfl rfl rfl (by decide) rfl rfl (fun _ => ⟨rfl, rfl⟩) rfl ?_
  replace hz := ow_zz_R (o := 15) (k := 5) (r := 18) hz (by decide) (by decide)
  show ow_AW ow_Y1 (ow_Zn Q 3 18) M_Scene_init (d + 1) 3 18 28 [(0, .ref 15)] [] (19, I, J, (ow_u (ow_u (ow_u R 15 3 (some 16)) 15 4 (some 17)) 15 5 (some 18))) _ _
  exact ow_vretN d_Scene_init_28 rfl (by decide) (by decide) (T hz)
set_option maxRecDepth 8000 in
theorem n_Told_init_14 {d : Nat} {I : Nat → Nat → Int32} {J : Nat → Nat → Int64} {R : Nat → Nat → Option Nat} {Q : ow_H → Prop} (hz : ow_zz 15 I J R) (T : ow_zz 25 I J (ow_u (ow_u (ow_u (ow_u (ow_u (ow_u (ow_u (ow_u (ow_u (ow_u R 15 3 (some 16)) 15 4 (some 17)) 15 5 (some 18)) 14 2 (some 15)) 14 4 (some 19)) 14 5 (some 20)) 14 6 (some 21)) 14 8 (some 22)) 14 10 (some 23)) 14 11 (some 24)) → Q (25, I, J, (ow_u (ow_u (ow_u (ow_u (ow_u (ow_u (ow_u (ow_u (ow_u (ow_u R 15 3 (some 16)) 15 4 (some 17)) 15 5 (some 18)) 14 2 (some 15)) 14 4 (some 19)) 14 5 (some 20)) 14 6 (some 21)) 14 8 (some 22)) 14 10 (some 23)) 14 11 (some 24)))) : ow_AN M_Told_init (d + 2) 10 53 [.ref 14] (15, I, J, R) Q := by
  refine ow_enterN (by decide) (Nat.le_of_ble_eq_true rfl) ?_
  show ow_AW ow_Y1 (ow_Zn Q 10 53) M_Told_init (d + 2) 10 53 0 [(0, .ref 14)] [] (15, I, J, R) 0 0
  refine ow_aload_n 0 rfl d_Told_init_0 ?_
  refine ow_obj d_Told_init_1 wo_Told_3 wo_1 wo_2 (by omega) (Nat.le_of_ble_eq_true rfl) ?_
  refine ow_aload_n 0 rfl d_Told_init_4 ?_
  refine ow_new (ci := 4) d_Told_init_5 wl_Told_9 wi_4 wz_4 rfl (by decide) hz rfl rfl (by decide) (by decide) (by decide) ?_
  replace hz := ow_zz_n hz
  refine ow_dup rfl d_Told_init_8 ?_
  refine ow_callN (M2 := M_Scene_init) (d2 := d + 1) (mc2 := 3) (ms2 := 18) (b := 15) (As := []) (rest := [.ref 15, .ref 14]) d_Told_init_9 1 rfl b_Scene_init bi_Scene_init rfl rfl (Nat.le_of_ble_eq_true rfl) (by omega) (by decide) (by decide) rfl rfl (n_Scene_init_15 (d := d + 0) hz (fun hz1 => ⟨show 19 ≤ 16 + 3 by decide, ?_⟩))
  replace hz := hz1
  clear hz1
  show ow_AW ow_Y1 (ow_Zn Q 10 53) M_Told_init (d + 2) 10 53 12 [(0, .ref 14)] [.ref 15, .ref 14] (19, I, J, (ow_u (ow_u (ow_u R 15 3 (some 16)) 15 4 (some 17)) 15 5 (some 18))) _ _
  refine ow_pF 34 d_Told_init_12 rfl rfl rfl rfl (by decide) rfl rfl (fun _ => ⟨rfl, rfl⟩) rfl ?_
  replace hz := ow_zz_R (o := 14) (k := 2) (r := 15) hz (by decide) (by decide)
  show ow_AW ow_Y1 (ow_Zn Q 10 53) M_Told_init (d + 2) 10 53 15 [(0, .ref 14)] [] (19, I, J, (ow_u (ow_u (ow_u (ow_u R 15 3 (some 16)) 15 4 (some 17)) 15 5 (some 18)) 14 2 (some 15))) _ _
  refine ow_aload_n 0 rfl d_Told_init_15 ?_
  refine ow_iconst (v := 5) (by decide) d_Told_init_16 ?_
  refine ow_newaI (N := 5) d_Told_init_17 wa_int rfl rfl rfl (by decide) hz rfl rfl (by decide) (by decide) (by decide) ?_
  replace hz := ow_zz_n hz
  refine ow_pF 43 d_Told_init_19 rfl rfl rfl rfl (by decide) rfl rfl (fun _ => ⟨rfl, rfl⟩) rfl ?_
  replace hz := ow_zz_R (o := 14) (k := 4) (r := 19) hz (by decide) (by decide)
  show ow_AW ow_Y1 (ow_Zn Q 10 53) M_Told_init (d + 2) 10 53 22 [(0, .ref 14)] [] (20, I, J, (ow_u (ow_u (ow_u (ow_u (ow_u R 15 3 (some 16)) 15 4 (some 17)) 15 5 (some 18)) 14 2 (some 15)) 14 4 (some 19))) _ _
  refine ow_aload_n 0 rfl d_Told_init_22 ?_
  refine ow_iconst (v := 5) (by decide) d_Told_init_23 ?_
  refine ow_newaI (N := 5) d_Told_init_24 wa_int rfl rfl rfl (by decide) hz rfl rfl (by decide) (by decide) (by decide) ?_
  replace hz := ow_zz_n hz
  refine ow_pF 45 d_Told_init_26 rfl rfl rfl rfl (by decide) rfl rfl (fun _ => ⟨rfl, rfl⟩) rfl ?_
  replace hz := ow_zz_R (o := 14) (k := 5) (r := 20) hz (by decide) (by decide)
  show ow_AW ow_Y1 (ow_Zn Q 10 53) M_Told_init (d + 2) 10 53 29 [(0, .ref 14)] [] (21, I, J, (ow_u (ow_u (ow_u (ow_u (ow_u (ow_u R 15 3 (some 16)) 15 4 (some 17)) 15 5 (some 18)) 14 2 (some 15)) 14 4 (some 19)) 14 5 (some 20))) _ _
  refine ow_aload_n 0 rfl d_Told_init_29 ?_
  refine ow_bipush (v := 6) (by decide) d_Told_init_30 ?_
  refine ow_newaI (N := 6) d_Told_init_32 wa_int rfl rfl rfl (by decide) hz rfl rfl (by decide) (by decide) (by decide) ?_
  replace hz := ow_zz_n hz
  refine ow_pF 48 d_Told_init_34 rfl rfl rfl rfl (by decide) rfl rfl (fun _ => ⟨rfl, rfl⟩) rfl ?_
  replace hz := ow_zz_R (o := 14) (k := 6) (r := 21) hz (by decide) (by decide)
  show ow_AW ow_Y1 (ow_Zn Q 10 53) M_Told_init (d + 2) 10 53 37 [(0, .ref 14)] [] (22, I, J, (ow_u (ow_u (ow_u (ow_u (ow_u (ow_u (ow_u R 15 3 (some 16)) 15 4 (some 17)) 15 5 (some 18)) 14 2 (some 15)) 14 4 (some 19)) 14 5 (some 20)) 14 6 (some 21))) _ _
  refine ow_aload_n 0 rfl d_Told_init_37 ?_
  refine ow_iconst (v := 3) (by decide) d_Told_init_38 ?_
  refine ow_newaI (N := 3) d_Told_init_39 wa_int rfl rfl rfl (by decide) hz rfl rfl (by decide) (by decide) (by decide) ?_
  replace hz := ow_zz_n hz
  refine ow_pF 55 d_Told_init_41 rfl rfl rfl rfl (by decide) rfl rfl (fun _ => ⟨rfl, rfl⟩) rfl ?_
  replace hz := ow_zz_R (o := 14) (k := 8) (r := 22) hz (by decide) (by decide)
  show ow_AW ow_Y1 (ow_Zn Q 10 53) M_Told_init (d + 2) 10 53 44 [(0, .ref 14)] [] (23, I, J, (ow_u (ow_u (ow_u (ow_u (ow_u (ow_u (ow_u (ow_u R 15 3 (some 16)) 15 4 (some 17)) 15 5 (some 18)) 14 2 (some 15)) 14 4 (some 19)) 14 5 (some 20)) 14 6 (some 21)) 14 8 (some 22))) _ _
  refine ow_aload_n 0 rfl d_Told_init_44 ?_
  refine ow_iconst (v := 5) (by decide) d_Told_init_45 ?_
  refine ow_newaI (N := 5) d_Told_init_46 wa_int rfl rfl rfl (by decide) hz rfl rfl (by decide) (by decide) (by decide) ?_
  replace hz := ow_zz_n hz
  refine ow_pF 61 d_Told_init_48 rfl rfl rfl rfl (by decide) rfl rfl (fun _ => ⟨rfl, rfl⟩) rfl ?_
  replace hz := ow_zz_R (o := 14) (k := 10) (r := 23) hz (by decide) (by decide)
  show ow_AW ow_Y1 (ow_Zn Q 10 53) M_Told_init (d + 2) 10 53 51 [(0, .ref 14)] [] (24, I, J, (ow_u (ow_u (ow_u (ow_u (ow_u (ow_u (ow_u (ow_u (ow_u R 15 3 (some 16)) 15 4 (some 17)) 15 5 (some 18)) 14 2 (some 15)) 14 4 (some 19)) 14 5 (some 20)) 14 6 (some 21)) 14 8 (some 22)) 14 10 (some 23))) _ _
  refine ow_aload_n 0 rfl d_Told_init_51 ?_
  refine ow_iconst (v := 5) (by decide) d_Told_init_52 ?_
  refine ow_newaI (N := 5) d_Told_init_53 wa_int rfl rfl rfl (by decide) hz rfl rfl (by decide) (by decide) (by decide) ?_
  replace hz := ow_zz_n hz
  refine ow_pF 63 d_Told_init_55 rfl rfl rfl rfl (by decide) rfl rfl (fun _ => ⟨rfl, rfl⟩) rfl ?_
  replace hz := ow_zz_R (o := 14) (k := 11) (r := 24) hz (by decide) (by decide)
  show ow_AW ow_Y1 (ow_Zn Q 10 53) M_Told_init (d + 2) 10 53 58 [(0, .ref 14)] [] (25, I, J, (ow_u (ow_u (ow_u (ow_u (ow_u (ow_u (ow_u (ow_u (ow_u (ow_u R 15 3 (some 16)) 15 4 (some 17)) 15 5 (some 18)) 14 2 (some 15)) 14 4 (some 19)) 14 5 (some 20)) 14 6 (some 21)) 14 8 (some 22)) 14 10 (some 23)) 14 11 (some 24))) _ _
  exact ow_vretN d_Told_init_58 rfl (by decide) (by decide) (T hz)
set_option maxRecDepth 8000 in
theorem n_Tokens_init_25 {d : Nat} {I : Nat → Nat → Int32} {J : Nat → Nat → Int64} {R : Nat → Nat → Option Nat} {Q : ow_H → Prop} (hz : ow_zz 26 I J R) (T : ow_zz 27 I J (ow_u R 25 0 (some 26)) → Q (27, I, J, (ow_u R 25 0 (some 26)))) : ow_AN M_Tokens_init (d + 1) 1 0 [.ref 25] (26, I, J, R) Q := by
  refine ow_enterN (by decide) (Nat.le_of_ble_eq_true rfl) ?_
  show ow_AW ow_Y1 (ow_Zn Q 1 0) M_Tokens_init (d + 1) 1 0 0 [(0, .ref 25)] [] (26, I, J, R) 0 0
  refine ow_aload_n 0 rfl d_Tokens_init_0 ?_
  refine ow_obj d_Tokens_init_1 wo_Tokens_1 wo_1 wo_2 (by omega) (Nat.le_of_ble_eq_true rfl) ?_
  refine ow_aload_n 0 rfl d_Tokens_init_4 ?_
  refine ow_iconst (v := 0) (by decide) d_Tokens_init_5 ?_
  refine ow_newaB (N := 0) d_Tokens_init_6 wa_byte rfl rfl rfl (by decide) hz rfl rfl (by decide) (by decide) (by decide) ?_
  replace hz := ow_zz_n hz
  refine ow_pR1 (ty := .byte) 65 d_Tokens_init_8 rfl rfl (by decide) rfl rfl rfl rfl ?_
  replace hz := ow_zz_R (o := 25) (k := 0) (r := 26) hz (by decide) (by decide)
  show ow_AW ow_Y1 (ow_Zn Q 1 0) M_Tokens_init (d + 1) 1 0 11 [(0, .ref 25)] [] (27, I, J, (ow_u R 25 0 (some 26))) _ _
  exact ow_vretN d_Tokens_init_11 rfl (by decide) (by decide) (T hz)
set_option maxRecDepth 8000 in
theorem n_Reader_init_13 {d : Nat} {I : Nat → Nat → Int32} {J : Nat → Nat → Int64} {R : Nat → Nat → Option Nat} {Q : ow_H → Prop} (hz : ow_zz 14 I J R) (T : ow_zz 29 I J (ow_u (ow_u (ow_u (ow_u (ow_u (ow_u (ow_u (ow_u (ow_u (ow_u (ow_u (ow_u (ow_u (ow_u (ow_u R 15 3 (some 16)) 15 4 (some 17)) 15 5 (some 18)) 14 2 (some 15)) 14 4 (some 19)) 14 5 (some 20)) 14 6 (some 21)) 14 8 (some 22)) 14 10 (some 23)) 14 11 (some 24)) 13 0 (some 14)) 25 0 (some 26)) 13 1 (some 25)) 13 2 (some 27)) 13 3 (some 28)) → Q (29, I, J, (ow_u (ow_u (ow_u (ow_u (ow_u (ow_u (ow_u (ow_u (ow_u (ow_u (ow_u (ow_u (ow_u (ow_u (ow_u R 15 3 (some 16)) 15 4 (some 17)) 15 5 (some 18)) 14 2 (some 15)) 14 4 (some 19)) 14 5 (some 20)) 14 6 (some 21)) 14 8 (some 22)) 14 10 (some 23)) 14 11 (some 24)) 13 0 (some 14)) 25 0 (some 26)) 13 1 (some 25)) 13 2 (some 27)) 13 3 (some 28)))) : ow_AN M_Reader_init (d + 3) 15 81 [.ref 13] (14, I, J, R) Q := by
  refine ow_enterN (by decide) (Nat.le_of_ble_eq_true rfl) ?_
  show ow_AW ow_Y1 (ow_Zn Q 15 81) M_Reader_init (d + 3) 15 81 0 [(0, .ref 13)] [] (14, I, J, R) 0 0
  refine ow_aload_n 0 rfl d_Reader_init_0 ?_
  refine ow_obj d_Reader_init_1 wo_Reader_3 wo_1 wo_2 (by omega) (Nat.le_of_ble_eq_true rfl) ?_
  refine ow_aload_n 0 rfl d_Reader_init_4 ?_
  refine ow_new (ci := 8) d_Reader_init_5 wl_Reader_9 wi_8 wz_8 rfl (by decide) hz rfl rfl (by decide) (by decide) (by decide) ?_
  replace hz := ow_zz_n hz
  refine ow_dup rfl d_Reader_init_8 ?_
  refine ow_callN (M2 := M_Told_init) (d2 := d + 2) (mc2 := 10) (ms2 := 53) (b := 14) (As := []) (rest := [.ref 14, .ref 13]) d_Reader_init_9 3 rfl b_Told_init bi_Told_init rfl rfl (Nat.le_of_ble_eq_true rfl) (by omega) (by decide) (by decide) rfl rfl (n_Told_init_14 (d := d + 0) hz (fun hz1 => ⟨show 25 ≤ 15 + 10 by decide, ?_⟩))
  replace hz := hz1
  clear hz1
  show ow_AW ow_Y1 (ow_Zn Q 15 81) M_Reader_init (d + 3) 15 81 12 [(0, .ref 13)] [.ref 14, .ref 13] (25, I, J, (ow_u (ow_u (ow_u (ow_u (ow_u (ow_u (ow_u (ow_u (ow_u (ow_u R 15 3 (some 16)) 15 4 (some 17)) 15 5 (some 18)) 14 2 (some 15)) 14 4 (some 19)) 14 5 (some 20)) 14 6 (some 21)) 14 8 (some 22)) 14 10 (some 23)) 14 11 (some 24))) _ _
  refine ow_pF 72 d_Reader_init_12 rfl rfl rfl rfl (by decide) rfl rfl (fun _ => ⟨rfl, rfl⟩) rfl ?_
  replace hz := ow_zz_R (o := 13) (k := 0) (r := 14) hz (by decide) (by decide)
  show ow_AW ow_Y1 (ow_Zn Q 15 81) M_Reader_init (d + 3) 15 81 15 [(0, .ref 13)] [] (25, I, J, (ow_u (ow_u (ow_u (ow_u (ow_u (ow_u (ow_u (ow_u (ow_u (ow_u (ow_u R 15 3 (some 16)) 15 4 (some 17)) 15 5 (some 18)) 14 2 (some 15)) 14 4 (some 19)) 14 5 (some 20)) 14 6 (some 21)) 14 8 (some 22)) 14 10 (some 23)) 14 11 (some 24)) 13 0 (some 14))) _ _
  refine ow_aload_n 0 rfl d_Reader_init_15 ?_
  refine ow_new (ci := 7) d_Reader_init_16 wl_Reader_18 wi_7 wz_7 rfl (by decide) hz rfl rfl (by decide) (by decide) (by decide) ?_
  replace hz := ow_zz_n hz
  refine ow_dup rfl d_Reader_init_19 ?_
  refine ow_callN (M2 := M_Tokens_init) (d2 := d + 2) (mc2 := 1) (ms2 := 0) (b := 25) (As := []) (rest := [.ref 25, .ref 13]) d_Reader_init_20 4 rfl b_Tokens_init bi_Tokens_init rfl rfl (Nat.le_of_ble_eq_true rfl) (by omega) (by decide) (by decide) rfl rfl (n_Tokens_init_25 (d := d + 1) hz (fun hz1 => ⟨show 27 ≤ 26 + 1 by decide, ?_⟩))
  replace hz := hz1
  clear hz1
  show ow_AW ow_Y1 (ow_Zn Q 15 81) M_Reader_init (d + 3) 15 81 23 [(0, .ref 13)] [.ref 25, .ref 13] (27, I, J, (ow_u (ow_u (ow_u (ow_u (ow_u (ow_u (ow_u (ow_u (ow_u (ow_u (ow_u (ow_u R 15 3 (some 16)) 15 4 (some 17)) 15 5 (some 18)) 14 2 (some 15)) 14 4 (some 19)) 14 5 (some 20)) 14 6 (some 21)) 14 8 (some 22)) 14 10 (some 23)) 14 11 (some 24)) 13 0 (some 14)) 25 0 (some 26))) _ _
  refine ow_pF 74 d_Reader_init_23 rfl rfl rfl rfl (by decide) rfl rfl (fun _ => ⟨rfl, rfl⟩) rfl ?_
  replace hz := ow_zz_R (o := 13) (k := 1) (r := 25) hz (by decide) (by decide)
  show ow_AW ow_Y1 (ow_Zn Q 15 81) M_Reader_init (d + 3) 15 81 26 [(0, .ref 13)] [] (27, I, J, (ow_u (ow_u (ow_u (ow_u (ow_u (ow_u (ow_u (ow_u (ow_u (ow_u (ow_u (ow_u (ow_u R 15 3 (some 16)) 15 4 (some 17)) 15 5 (some 18)) 14 2 (some 15)) 14 4 (some 19)) 14 5 (some 20)) 14 6 (some 21)) 14 8 (some 22)) 14 10 (some 23)) 14 11 (some 24)) 13 0 (some 14)) 25 0 (some 26)) 13 1 (some 25))) _ _
  refine ow_aload_n 0 rfl d_Reader_init_26 ?_
  refine ow_bipush (v := 6) (by decide) d_Reader_init_27 ?_
  refine ow_newaJ (N := 6) d_Reader_init_29 wa_long rfl rfl rfl (by decide) hz rfl rfl (by decide) (by decide) (by decide) ?_
  replace hz := ow_zz_n hz
  refine ow_pF 75 d_Reader_init_31 rfl rfl rfl rfl (by decide) rfl rfl (fun _ => ⟨rfl, rfl⟩) rfl ?_
  replace hz := ow_zz_R (o := 13) (k := 2) (r := 27) hz (by decide) (by decide)
  show ow_AW ow_Y1 (ow_Zn Q 15 81) M_Reader_init (d + 3) 15 81 34 [(0, .ref 13)] [] (28, I, J, (ow_u (ow_u (ow_u (ow_u (ow_u (ow_u (ow_u (ow_u (ow_u (ow_u (ow_u (ow_u (ow_u (ow_u R 15 3 (some 16)) 15 4 (some 17)) 15 5 (some 18)) 14 2 (some 15)) 14 4 (some 19)) 14 5 (some 20)) 14 6 (some 21)) 14 8 (some 22)) 14 10 (some 23)) 14 11 (some 24)) 13 0 (some 14)) 25 0 (some 26)) 13 1 (some 25)) 13 2 (some 27))) _ _
  refine ow_aload_n 0 rfl d_Reader_init_34 ?_
  refine ow_iconst (v := 5) (by decide) d_Reader_init_35 ?_
  refine ow_newaJ (N := 5) d_Reader_init_36 wa_long rfl rfl rfl (by decide) hz rfl rfl (by decide) (by decide) (by decide) ?_
  replace hz := ow_zz_n hz
  refine ow_pF 76 d_Reader_init_38 rfl rfl rfl rfl (by decide) rfl rfl (fun _ => ⟨rfl, rfl⟩) rfl ?_
  replace hz := ow_zz_R (o := 13) (k := 3) (r := 28) hz (by decide) (by decide)
  show ow_AW ow_Y1 (ow_Zn Q 15 81) M_Reader_init (d + 3) 15 81 41 [(0, .ref 13)] [] (29, I, J, (ow_u (ow_u (ow_u (ow_u (ow_u (ow_u (ow_u (ow_u (ow_u (ow_u (ow_u (ow_u (ow_u (ow_u (ow_u R 15 3 (some 16)) 15 4 (some 17)) 15 5 (some 18)) 14 2 (some 15)) 14 4 (some 19)) 14 5 (some 20)) 14 6 (some 21)) 14 8 (some 22)) 14 10 (some 23)) 14 11 (some 24)) 13 0 (some 14)) 25 0 (some 26)) 13 1 (some 25)) 13 2 (some 27)) 13 3 (some 28))) _ _
  exact ow_vretN d_Reader_init_41 rfl (by decide) (by decide) (T hz)
set_option maxRecDepth 8000 in
theorem n_Scene_init_29 {d : Nat} {I : Nat → Nat → Int32} {J : Nat → Nat → Int64} {R : Nat → Nat → Option Nat} {Q : ow_H → Prop} (hz : ow_zz 30 I J R) (T : ow_zz 33 I J (ow_u (ow_u (ow_u R 29 3 (some 30)) 29 4 (some 31)) 29 5 (some 32)) → Q (33, I, J, (ow_u (ow_u (ow_u R 29 3 (some 30)) 29 4 (some 31)) 29 5 (some 32)))) : ow_AN M_Scene_init (d + 1) 3 18 [.ref 29] (30, I, J, R) Q := by
  refine ow_enterN (by decide) (Nat.le_of_ble_eq_true rfl) ?_
  show ow_AW ow_Y1 (ow_Zn Q 3 18) M_Scene_init (d + 1) 3 18 0 [(0, .ref 29)] [] (30, I, J, R) 0 0
  refine ow_aload_n 0 rfl d_Scene_init_0 ?_
  refine ow_obj d_Scene_init_1 wo_Scene_3 wo_1 wo_2 (by omega) (Nat.le_of_ble_eq_true rfl) ?_
  refine ow_aload_n 0 rfl d_Scene_init_4 ?_
  refine ow_bipush (v := 6) (by decide) d_Scene_init_5 ?_
  refine ow_newaI (N := 6) d_Scene_init_7 wa_int rfl rfl rfl (by decide) hz rfl rfl (by decide) (by decide) (by decide) ?_
  replace hz := ow_zz_n hz
  refine ow_pF 13 d_Scene_init_9 rfl rfl rfl rfl (by decide) rfl rfl (fun _ => ⟨rfl, rfl⟩) rfl ?_
  replace hz := ow_zz_R (o := 29) (k := 3) (r := 30) hz (by decide) (by decide)
  show ow_AW ow_Y1 (ow_Zn Q 3 18) M_Scene_init (d + 1) 3 18 12 [(0, .ref 29)] [] (31, I, J, (ow_u R 29 3 (some 30))) _ _
  refine ow_aload_n 0 rfl d_Scene_init_12 ?_
  refine ow_bipush (v := 6) (by decide) d_Scene_init_13 ?_
  refine ow_newaI (N := 6) d_Scene_init_15 wa_int rfl rfl rfl (by decide) hz rfl rfl (by decide) (by decide) (by decide) ?_
  replace hz := ow_zz_n hz
  refine ow_pF 16 d_Scene_init_17 rfl rfl rfl rfl (by decide) rfl rfl (fun _ => ⟨rfl, rfl⟩) rfl ?_
  replace hz := ow_zz_R (o := 29) (k := 4) (r := 31) hz (by decide) (by decide)
  show ow_AW ow_Y1 (ow_Zn Q 3 18) M_Scene_init (d + 1) 3 18 20 [(0, .ref 29)] [] (32, I, J, (ow_u (ow_u R 29 3 (some 30)) 29 4 (some 31))) _ _
  refine ow_aload_n 0 rfl d_Scene_init_20 ?_
  refine ow_bipush (v := 6) (by decide) d_Scene_init_21 ?_
  refine ow_newaI (N := 6) d_Scene_init_23 wa_int rfl rfl rfl (by decide) hz rfl rfl (by decide) (by decide) (by decide) ?_
  replace hz := ow_zz_n hz
  refine ow_pF 21 d_Scene_init_25 rfl rfl rfl rfl (by decide) rfl rfl (fun _ => ⟨rfl, rfl⟩) rfl ?_
  replace hz := ow_zz_R (o := 29) (k := 5) (r := 32) hz (by decide) (by decide)
  show ow_AW ow_Y1 (ow_Zn Q 3 18) M_Scene_init (d + 1) 3 18 28 [(0, .ref 29)] [] (33, I, J, (ow_u (ow_u (ow_u R 29 3 (some 30)) 29 4 (some 31)) 29 5 (some 32))) _ _
  exact ow_vretN d_Scene_init_28 rfl (by decide) (by decide) (T hz)
set_option maxRecDepth 8000 in
theorem n_Scene_init_33 {d : Nat} {I : Nat → Nat → Int32} {J : Nat → Nat → Int64} {R : Nat → Nat → Option Nat} {Q : ow_H → Prop} (hz : ow_zz 34 I J R) (T : ow_zz 37 I J (ow_u (ow_u (ow_u R 33 3 (some 34)) 33 4 (some 35)) 33 5 (some 36)) → Q (37, I, J, (ow_u (ow_u (ow_u R 33 3 (some 34)) 33 4 (some 35)) 33 5 (some 36)))) : ow_AN M_Scene_init (d + 1) 3 18 [.ref 33] (34, I, J, R) Q := by
  refine ow_enterN (by decide) (Nat.le_of_ble_eq_true rfl) ?_
  show ow_AW ow_Y1 (ow_Zn Q 3 18) M_Scene_init (d + 1) 3 18 0 [(0, .ref 33)] [] (34, I, J, R) 0 0
  refine ow_aload_n 0 rfl d_Scene_init_0 ?_
  refine ow_obj d_Scene_init_1 wo_Scene_3 wo_1 wo_2 (by omega) (Nat.le_of_ble_eq_true rfl) ?_
  refine ow_aload_n 0 rfl d_Scene_init_4 ?_
  refine ow_bipush (v := 6) (by decide) d_Scene_init_5 ?_
  refine ow_newaI (N := 6) d_Scene_init_7 wa_int rfl rfl rfl (by decide) hz rfl rfl (by decide) (by decide) (by decide) ?_
  replace hz := ow_zz_n hz
  refine ow_pF 13 d_Scene_init_9 rfl rfl rfl rfl (by decide) rfl rfl (fun _ => ⟨rfl, rfl⟩) rfl ?_
  replace hz := ow_zz_R (o := 33) (k := 3) (r := 34) hz (by decide) (by decide)
  show ow_AW ow_Y1 (ow_Zn Q 3 18) M_Scene_init (d + 1) 3 18 12 [(0, .ref 33)] [] (35, I, J, (ow_u R 33 3 (some 34))) _ _
  refine ow_aload_n 0 rfl d_Scene_init_12 ?_
  refine ow_bipush (v := 6) (by decide) d_Scene_init_13 ?_
  refine ow_newaI (N := 6) d_Scene_init_15 wa_int rfl rfl rfl (by decide) hz rfl rfl (by decide) (by decide) (by decide) ?_
  replace hz := ow_zz_n hz
  refine ow_pF 16 d_Scene_init_17 rfl rfl rfl rfl (by decide) rfl rfl (fun _ => ⟨rfl, rfl⟩) rfl ?_
  replace hz := ow_zz_R (o := 33) (k := 4) (r := 35) hz (by decide) (by decide)
  show ow_AW ow_Y1 (ow_Zn Q 3 18) M_Scene_init (d + 1) 3 18 20 [(0, .ref 33)] [] (36, I, J, (ow_u (ow_u R 33 3 (some 34)) 33 4 (some 35))) _ _
  refine ow_aload_n 0 rfl d_Scene_init_20 ?_
  refine ow_bipush (v := 6) (by decide) d_Scene_init_21 ?_
  refine ow_newaI (N := 6) d_Scene_init_23 wa_int rfl rfl rfl (by decide) hz rfl rfl (by decide) (by decide) (by decide) ?_
  replace hz := ow_zz_n hz
  refine ow_pF 21 d_Scene_init_25 rfl rfl rfl rfl (by decide) rfl rfl (fun _ => ⟨rfl, rfl⟩) rfl ?_
  replace hz := ow_zz_R (o := 33) (k := 5) (r := 36) hz (by decide) (by decide)
  show ow_AW ow_Y1 (ow_Zn Q 3 18) M_Scene_init (d + 1) 3 18 28 [(0, .ref 33)] [] (37, I, J, (ow_u (ow_u (ow_u R 33 3 (some 34)) 33 4 (some 35)) 33 5 (some 36))) _ _
  exact ow_vretN d_Scene_init_28 rfl (by decide) (by decide) (T hz)
set_option maxRecDepth 8000 in
theorem n_Course_init_37 {d : Nat} {I : Nat → Nat → Int32} {J : Nat → Nat → Int64} {R : Nat → Nat → Option Nat} {Q : ow_H → Prop} (hz : ow_zz 38 I J R) (T : ow_zz 39 I J (ow_u R 37 0 (some 38)) → Q (39, I, J, (ow_u R 37 0 (some 38)))) : ow_AN M_Course_init (d + 1) 1 6 [.ref 37] (38, I, J, R) Q := by
  refine ow_enterN (by decide) (Nat.le_of_ble_eq_true rfl) ?_
  show ow_AW ow_Y1 (ow_Zn Q 1 6) M_Course_init (d + 1) 1 6 0 [(0, .ref 37)] [] (38, I, J, R) 0 0
  refine ow_aload_n 0 rfl d_Course_init_0 ?_
  refine ow_obj d_Course_init_1 wo_Course_3 wo_1 wo_2 (by omega) (Nat.le_of_ble_eq_true rfl) ?_
  refine ow_aload_n 0 rfl d_Course_init_4 ?_
  refine ow_bipush (v := 6) (by decide) d_Course_init_5 ?_
  refine ow_newaI (N := 6) d_Course_init_7 wa_int rfl rfl rfl (by decide) hz rfl rfl (by decide) (by decide) (by decide) ?_
  replace hz := ow_zz_n hz
  refine ow_pF 86 d_Course_init_9 rfl rfl rfl rfl (by decide) rfl rfl (fun _ => ⟨rfl, rfl⟩) rfl ?_
  replace hz := ow_zz_R (o := 37) (k := 0) (r := 38) hz (by decide) (by decide)
  show ow_AW ow_Y1 (ow_Zn Q 1 6) M_Course_init (d + 1) 1 6 12 [(0, .ref 37)] [] (39, I, J, (ow_u R 37 0 (some 38))) _ _
  exact ow_vretN d_Course_init_12 rfl (by decide) (by decide) (T hz)
set_option maxRecDepth 8000 in
theorem n_Course_init_40 {d : Nat} {I : Nat → Nat → Int32} {J : Nat → Nat → Int64} {R : Nat → Nat → Option Nat} {Q : ow_H → Prop} (hz : ow_zz 41 I J R) (T : ow_zz 42 I J (ow_u R 40 0 (some 41)) → Q (42, I, J, (ow_u R 40 0 (some 41)))) : ow_AN M_Course_init (d + 1) 1 6 [.ref 40] (41, I, J, R) Q := by
  refine ow_enterN (by decide) (Nat.le_of_ble_eq_true rfl) ?_
  show ow_AW ow_Y1 (ow_Zn Q 1 6) M_Course_init (d + 1) 1 6 0 [(0, .ref 40)] [] (41, I, J, R) 0 0
  refine ow_aload_n 0 rfl d_Course_init_0 ?_
  refine ow_obj d_Course_init_1 wo_Course_3 wo_1 wo_2 (by omega) (Nat.le_of_ble_eq_true rfl) ?_
  refine ow_aload_n 0 rfl d_Course_init_4 ?_
  refine ow_bipush (v := 6) (by decide) d_Course_init_5 ?_
  refine ow_newaI (N := 6) d_Course_init_7 wa_int rfl rfl rfl (by decide) hz rfl rfl (by decide) (by decide) (by decide) ?_
  replace hz := ow_zz_n hz
  refine ow_pF 86 d_Course_init_9 rfl rfl rfl rfl (by decide) rfl rfl (fun _ => ⟨rfl, rfl⟩) rfl ?_
  replace hz := ow_zz_R (o := 40) (k := 0) (r := 41) hz (by decide) (by decide)
  show ow_AW ow_Y1 (ow_Zn Q 1 6) M_Course_init (d + 1) 1 6 12 [(0, .ref 40)] [] (42, I, J, (ow_u R 40 0 (some 41))) _ _
  exact ow_vretN d_Course_init_12 rfl (by decide) (by decide) (T hz)
set_option maxRecDepth 8000 in
theorem n_Scene_init_42 {d : Nat} {I : Nat → Nat → Int32} {J : Nat → Nat → Int64} {R : Nat → Nat → Option Nat} {Q : ow_H → Prop} (hz : ow_zz 43 I J R) (T : ow_zz 46 I J (ow_u (ow_u (ow_u R 42 3 (some 43)) 42 4 (some 44)) 42 5 (some 45)) → Q (46, I, J, (ow_u (ow_u (ow_u R 42 3 (some 43)) 42 4 (some 44)) 42 5 (some 45)))) : ow_AN M_Scene_init (d + 1) 3 18 [.ref 42] (43, I, J, R) Q := by
  refine ow_enterN (by decide) (Nat.le_of_ble_eq_true rfl) ?_
  show ow_AW ow_Y1 (ow_Zn Q 3 18) M_Scene_init (d + 1) 3 18 0 [(0, .ref 42)] [] (43, I, J, R) 0 0
  refine ow_aload_n 0 rfl d_Scene_init_0 ?_
  refine ow_obj d_Scene_init_1 wo_Scene_3 wo_1 wo_2 (by omega) (Nat.le_of_ble_eq_true rfl) ?_
  refine ow_aload_n 0 rfl d_Scene_init_4 ?_
  refine ow_bipush (v := 6) (by decide) d_Scene_init_5 ?_
  refine ow_newaI (N := 6) d_Scene_init_7 wa_int rfl rfl rfl (by decide) hz rfl rfl (by decide) (by decide) (by decide) ?_
  replace hz := ow_zz_n hz
  refine ow_pF 13 d_Scene_init_9 rfl rfl rfl rfl (by decide) rfl rfl (fun _ => ⟨rfl, rfl⟩) rfl ?_
  replace hz := ow_zz_R (o := 42) (k := 3) (r := 43) hz (by decide) (by decide)
  show ow_AW ow_Y1 (ow_Zn Q 3 18) M_Scene_init (d + 1) 3 18 12 [(0, .ref 42)] [] (44, I, J, (ow_u R 42 3 (some 43))) _ _
  refine ow_aload_n 0 rfl d_Scene_init_12 ?_
  refine ow_bipush (v := 6) (by decide) d_Scene_init_13 ?_
  refine ow_newaI (N := 6) d_Scene_init_15 wa_int rfl rfl rfl (by decide) hz rfl rfl (by decide) (by decide) (by decide) ?_
  replace hz := ow_zz_n hz
  refine ow_pF 16 d_Scene_init_17 rfl rfl rfl rfl (by decide) rfl rfl (fun _ => ⟨rfl, rfl⟩) rfl ?_
  replace hz := ow_zz_R (o := 42) (k := 4) (r := 44) hz (by decide) (by decide)
  show ow_AW ow_Y1 (ow_Zn Q 3 18) M_Scene_init (d + 1) 3 18 20 [(0, .ref 42)] [] (45, I, J, (ow_u (ow_u R 42 3 (some 43)) 42 4 (some 44))) _ _
  refine ow_aload_n 0 rfl d_Scene_init_20 ?_
  refine ow_bipush (v := 6) (by decide) d_Scene_init_21 ?_
  refine ow_newaI (N := 6) d_Scene_init_23 wa_int rfl rfl rfl (by decide) hz rfl rfl (by decide) (by decide) (by decide) ?_
  replace hz := ow_zz_n hz
  refine ow_pF 21 d_Scene_init_25 rfl rfl rfl rfl (by decide) rfl rfl (fun _ => ⟨rfl, rfl⟩) rfl ?_
  replace hz := ow_zz_R (o := 42) (k := 5) (r := 45) hz (by decide) (by decide)
  show ow_AW ow_Y1 (ow_Zn Q 3 18) M_Scene_init (d + 1) 3 18 28 [(0, .ref 42)] [] (46, I, J, (ow_u (ow_u (ow_u R 42 3 (some 43)) 42 4 (some 44)) 42 5 (some 45))) _ _
  exact ow_vretN d_Scene_init_28 rfl (by decide) (by decide) (T hz)
set_option maxRecDepth 8000 in
theorem n_Serving_init_39 {d : Nat} {I : Nat → Nat → Int32} {J : Nat → Nat → Int64} {R : Nat → Nat → Option Nat} {Q : ow_H → Prop} (hz : ow_zz 40 I J R) (T : ow_zz 46 I J (ow_u (ow_u (ow_u (ow_u (ow_u (ow_u (ow_u R 40 0 (some 41)) 39 1 (some 40)) 42 3 (some 43)) 42 4 (some 44)) 42 5 (some 45)) 39 2 (some 42)) 39 0 (some 2)) → Q (46, I, J, (ow_u (ow_u (ow_u (ow_u (ow_u (ow_u (ow_u R 40 0 (some 41)) 39 1 (some 40)) 42 3 (some 43)) 42 4 (some 44)) 42 5 (some 45)) 39 2 (some 42)) 39 0 (some 2)))) : ow_AN M_Serving_init (d + 2) 6 35 [.ref 39, .ref 2] (40, I, J, R) Q := by
  refine ow_enterN (by decide) (Nat.le_of_ble_eq_true rfl) ?_
  show ow_AW ow_Y1 (ow_Zn Q 6 35) M_Serving_init (d + 2) 6 35 0 [(0, .ref 39), (1, .ref 2)] [] (40, I, J, R) 0 0
  refine ow_aload_n 0 rfl d_Serving_init_0 ?_
  refine ow_obj d_Serving_init_1 wo_Serving_3 wo_1 wo_2 (by omega) (Nat.le_of_ble_eq_true rfl) ?_
  refine ow_aload_n 0 rfl d_Serving_init_4 ?_
  refine ow_new (ci := 0) d_Serving_init_5 wl_Serving_9 wi_0 wz_0 rfl (by decide) hz rfl rfl (by decide) (by decide) (by decide) ?_
  replace hz := ow_zz_n hz
  refine ow_dup rfl d_Serving_init_8 ?_
  refine ow_callN (M2 := M_Course_init) (d2 := d + 1) (mc2 := 1) (ms2 := 6) (b := 40) (As := []) (rest := [.ref 40, .ref 39]) d_Serving_init_9 7 rfl b_Course_init bi_Course_init rfl rfl (Nat.le_of_ble_eq_true rfl) (by omega) (by decide) (by decide) rfl rfl (n_Course_init_40 (d := d + 0) hz (fun hz1 => ⟨show 42 ≤ 41 + 1 by decide, ?_⟩))
  replace hz := hz1
  clear hz1
  show ow_AW ow_Y1 (ow_Zn Q 6 35) M_Serving_init (d + 2) 6 35 12 [(0, .ref 39), (1, .ref 2)] [.ref 40, .ref 39] (42, I, J, (ow_u R 40 0 (some 41))) _ _
  refine ow_pF 104 d_Serving_init_12 rfl rfl rfl rfl (by decide) rfl rfl (fun _ => ⟨rfl, rfl⟩) rfl ?_
  replace hz := ow_zz_R (o := 39) (k := 1) (r := 40) hz (by decide) (by decide)
  show ow_AW ow_Y1 (ow_Zn Q 6 35) M_Serving_init (d + 2) 6 35 15 [(0, .ref 39), (1, .ref 2)] [] (42, I, J, (ow_u (ow_u R 40 0 (some 41)) 39 1 (some 40))) _ _
  refine ow_aload_n 0 rfl d_Serving_init_15 ?_
  refine ow_new (ci := 4) d_Serving_init_16 wl_Serving_18 wi_4 wz_4 rfl (by decide) hz rfl rfl (by decide) (by decide) (by decide) ?_
  replace hz := ow_zz_n hz
  refine ow_dup rfl d_Serving_init_19 ?_
  refine ow_callN (M2 := M_Scene_init) (d2 := d + 1) (mc2 := 3) (ms2 := 18) (b := 42) (As := []) (rest := [.ref 42, .ref 39]) d_Serving_init_20 8 rfl b_Scene_init bi_Scene_init rfl rfl (Nat.le_of_ble_eq_true rfl) (by omega) (by decide) (by decide) rfl rfl (n_Scene_init_42 (d := d + 0) hz (fun hz1 => ⟨show 46 ≤ 43 + 3 by decide, ?_⟩))
  replace hz := hz1
  clear hz1
  show ow_AW ow_Y1 (ow_Zn Q 6 35) M_Serving_init (d + 2) 6 35 23 [(0, .ref 39), (1, .ref 2)] [.ref 42, .ref 39] (46, I, J, (ow_u (ow_u (ow_u (ow_u (ow_u R 40 0 (some 41)) 39 1 (some 40)) 42 3 (some 43)) 42 4 (some 44)) 42 5 (some 45))) _ _
  refine ow_pF 105 d_Serving_init_23 rfl rfl rfl rfl (by decide) rfl rfl (fun _ => ⟨rfl, rfl⟩) rfl ?_
  replace hz := ow_zz_R (o := 39) (k := 2) (r := 42) hz (by decide) (by decide)
  show ow_AW ow_Y1 (ow_Zn Q 6 35) M_Serving_init (d + 2) 6 35 26 [(0, .ref 39), (1, .ref 2)] [] (46, I, J, (ow_u (ow_u (ow_u (ow_u (ow_u (ow_u R 40 0 (some 41)) 39 1 (some 40)) 42 3 (some 43)) 42 4 (some 44)) 42 5 (some 45)) 39 2 (some 42))) _ _
  refine ow_aload_n 0 rfl d_Serving_init_26 ?_
  refine ow_aload_n 1 rfl d_Serving_init_27 ?_
  refine ow_pF 103 d_Serving_init_28 rfl rfl rfl rfl (by decide) rfl rfl (fun _ => ⟨rfl, rfl⟩) rfl ?_
  replace hz := ow_zz_R (o := 39) (k := 0) (r := 2) hz (by decide) (by decide)
  show ow_AW ow_Y1 (ow_Zn Q 6 35) M_Serving_init (d + 2) 6 35 31 [(0, .ref 39), (1, .ref 2)] [] (46, I, J, (ow_u (ow_u (ow_u (ow_u (ow_u (ow_u (ow_u R 40 0 (some 41)) 39 1 (some 40)) 42 3 (some 43)) 42 4 (some 44)) 42 5 (some 45)) 39 2 (some 42)) 39 0 (some 2))) _ _
  exact ow_vretN d_Serving_init_31 rfl (by decide) (by decide) (T hz)
set_option maxRecDepth 8000 in
theorem n_Scene_init_47 {d : Nat} {I : Nat → Nat → Int32} {J : Nat → Nat → Int64} {R : Nat → Nat → Option Nat} {Q : ow_H → Prop} (hz : ow_zz 48 I J R) (T : ow_zz 51 I J (ow_u (ow_u (ow_u R 47 3 (some 48)) 47 4 (some 49)) 47 5 (some 50)) → Q (51, I, J, (ow_u (ow_u (ow_u R 47 3 (some 48)) 47 4 (some 49)) 47 5 (some 50)))) : ow_AN M_Scene_init (d + 1) 3 18 [.ref 47] (48, I, J, R) Q := by
  refine ow_enterN (by decide) (Nat.le_of_ble_eq_true rfl) ?_
  show ow_AW ow_Y1 (ow_Zn Q 3 18) M_Scene_init (d + 1) 3 18 0 [(0, .ref 47)] [] (48, I, J, R) 0 0
  refine ow_aload_n 0 rfl d_Scene_init_0 ?_
  refine ow_obj d_Scene_init_1 wo_Scene_3 wo_1 wo_2 (by omega) (Nat.le_of_ble_eq_true rfl) ?_
  refine ow_aload_n 0 rfl d_Scene_init_4 ?_
  refine ow_bipush (v := 6) (by decide) d_Scene_init_5 ?_
  refine ow_newaI (N := 6) d_Scene_init_7 wa_int rfl rfl rfl (by decide) hz rfl rfl (by decide) (by decide) (by decide) ?_
  replace hz := ow_zz_n hz
  refine ow_pF 13 d_Scene_init_9 rfl rfl rfl rfl (by decide) rfl rfl (fun _ => ⟨rfl, rfl⟩) rfl ?_
  replace hz := ow_zz_R (o := 47) (k := 3) (r := 48) hz (by decide) (by decide)
  show ow_AW ow_Y1 (ow_Zn Q 3 18) M_Scene_init (d + 1) 3 18 12 [(0, .ref 47)] [] (49, I, J, (ow_u R 47 3 (some 48))) _ _
  refine ow_aload_n 0 rfl d_Scene_init_12 ?_
  refine ow_bipush (v := 6) (by decide) d_Scene_init_13 ?_
  refine ow_newaI (N := 6) d_Scene_init_15 wa_int rfl rfl rfl (by decide) hz rfl rfl (by decide) (by decide) (by decide) ?_
  replace hz := ow_zz_n hz
  refine ow_pF 16 d_Scene_init_17 rfl rfl rfl rfl (by decide) rfl rfl (fun _ => ⟨rfl, rfl⟩) rfl ?_
  replace hz := ow_zz_R (o := 47) (k := 4) (r := 49) hz (by decide) (by decide)
  show ow_AW ow_Y1 (ow_Zn Q 3 18) M_Scene_init (d + 1) 3 18 20 [(0, .ref 47)] [] (50, I, J, (ow_u (ow_u R 47 3 (some 48)) 47 4 (some 49))) _ _
  refine ow_aload_n 0 rfl d_Scene_init_20 ?_
  refine ow_bipush (v := 6) (by decide) d_Scene_init_21 ?_
  refine ow_newaI (N := 6) d_Scene_init_23 wa_int rfl rfl rfl (by decide) hz rfl rfl (by decide) (by decide) (by decide) ?_
  replace hz := ow_zz_n hz
  refine ow_pF 21 d_Scene_init_25 rfl rfl rfl rfl (by decide) rfl rfl (fun _ => ⟨rfl, rfl⟩) rfl ?_
  replace hz := ow_zz_R (o := 47) (k := 5) (r := 50) hz (by decide) (by decide)
  show ow_AW ow_Y1 (ow_Zn Q 3 18) M_Scene_init (d + 1) 3 18 28 [(0, .ref 47)] [] (51, I, J, (ow_u (ow_u (ow_u R 47 3 (some 48)) 47 4 (some 49)) 47 5 (some 50))) _ _
  exact ow_vretN d_Scene_init_28 rfl (by decide) (by decide) (T hz)
set_option maxRecDepth 8000 in
theorem n_Planner_init_46 {d : Nat} {I : Nat → Nat → Int32} {J : Nat → Nat → Int64} {R : Nat → Nat → Option Nat} {Q : ow_H → Prop} (hz : ow_zz 47 I J R) (T : ow_zz 54 I J (ow_u (ow_u (ow_u (ow_u (ow_u (ow_u (ow_u (ow_u (ow_u R 47 3 (some 48)) 47 4 (some 49)) 47 5 (some 50)) 46 2 (some 47)) 46 3 (some 51)) 46 4 (some 52)) 46 5 (some 53)) 46 0 (some 2)) 46 1 (some 39)) → Q (54, I, J, (ow_u (ow_u (ow_u (ow_u (ow_u (ow_u (ow_u (ow_u (ow_u R 47 3 (some 48)) 47 4 (some 49)) 47 5 (some 50)) 46 2 (some 47)) 46 3 (some 51)) 46 4 (some 52)) 46 5 (some 53)) 46 0 (some 2)) 46 1 (some 39)))) : ow_AN M_Planner_init (d + 2) 7 96 [.ref 46, .ref 2, .ref 39] (47, I, J, R) Q := by
  refine ow_enterN (by decide) (Nat.le_of_ble_eq_true rfl) ?_
  show ow_AW ow_Y1 (ow_Zn Q 7 96) M_Planner_init (d + 2) 7 96 0 [(0, .ref 46), (1, .ref 2), (2, .ref 39)] [] (47, I, J, R) 0 0
  refine ow_aload_n 0 rfl d_Planner_init_0 ?_
  refine ow_obj d_Planner_init_1 wo_Planner_3 wo_1 wo_2 (by omega) (Nat.le_of_ble_eq_true rfl) ?_
  refine ow_aload_n 0 rfl d_Planner_init_4 ?_
  refine ow_new (ci := 4) d_Planner_init_5 wl_Planner_9 wi_4 wz_4 rfl (by decide) hz rfl rfl (by decide) (by decide) (by decide) ?_
  replace hz := ow_zz_n hz
  refine ow_dup rfl d_Planner_init_8 ?_
  refine ow_callN (M2 := M_Scene_init) (d2 := d + 1) (mc2 := 3) (ms2 := 18) (b := 47) (As := []) (rest := [.ref 47, .ref 46]) d_Planner_init_9 9 rfl b_Scene_init bi_Scene_init rfl rfl (Nat.le_of_ble_eq_true rfl) (by omega) (by decide) (by decide) rfl rfl (n_Scene_init_47 (d := d + 0) hz (fun hz1 => ⟨show 51 ≤ 48 + 3 by decide, ?_⟩))
  replace hz := hz1
  clear hz1
  show ow_AW ow_Y1 (ow_Zn Q 7 96) M_Planner_init (d + 2) 7 96 12 [(0, .ref 46), (1, .ref 2), (2, .ref 39)] [.ref 47, .ref 46] (51, I, J, (ow_u (ow_u (ow_u R 47 3 (some 48)) 47 4 (some 49)) 47 5 (some 50))) _ _
  refine ow_pF 116 d_Planner_init_12 rfl rfl rfl rfl (by decide) rfl rfl (fun _ => ⟨rfl, rfl⟩) rfl ?_
  replace hz := ow_zz_R (o := 46) (k := 2) (r := 47) hz (by decide) (by decide)
  show ow_AW ow_Y1 (ow_Zn Q 7 96) M_Planner_init (d + 2) 7 96 15 [(0, .ref 46), (1, .ref 2), (2, .ref 39)] [] (51, I, J, (ow_u (ow_u (ow_u (ow_u R 47 3 (some 48)) 47 4 (some 49)) 47 5 (some 50)) 46 2 (some 47))) _ _
  refine ow_aload_n 0 rfl d_Planner_init_15 ?_
  refine ow_iconst (v := 4) (by decide) d_Planner_init_16 ?_
  refine ow_newaI (N := 4) d_Planner_init_17 wa_int rfl rfl rfl (by decide) hz rfl rfl (by decide) (by decide) (by decide) ?_
  replace hz := ow_zz_n hz
  refine ow_pF 117 d_Planner_init_19 rfl rfl rfl rfl (by decide) rfl rfl (fun _ => ⟨rfl, rfl⟩) rfl ?_
  replace hz := ow_zz_R (o := 46) (k := 3) (r := 51) hz (by decide) (by decide)
  show ow_AW ow_Y1 (ow_Zn Q 7 96) M_Planner_init (d + 2) 7 96 22 [(0, .ref 46), (1, .ref 2), (2, .ref 39)] [] (52, I, J, (ow_u (ow_u (ow_u (ow_u (ow_u R 47 3 (some 48)) 47 4 (some 49)) 47 5 (some 50)) 46 2 (some 47)) 46 3 (some 51))) _ _
  refine ow_aload_n 0 rfl d_Planner_init_22 ?_
  refine ow_iconst (v := 4) (by decide) d_Planner_init_23 ?_
  refine ow_newaI (N := 4) d_Planner_init_24 wa_int rfl rfl rfl (by decide) hz rfl rfl (by decide) (by decide) (by decide) ?_
  replace hz := ow_zz_n hz
  refine ow_pF 118 d_Planner_init_26 rfl rfl rfl rfl (by decide) rfl rfl (fun _ => ⟨rfl, rfl⟩) rfl ?_
  replace hz := ow_zz_R (o := 46) (k := 4) (r := 52) hz (by decide) (by decide)
  show ow_AW ow_Y1 (ow_Zn Q 7 96) M_Planner_init (d + 2) 7 96 29 [(0, .ref 46), (1, .ref 2), (2, .ref 39)] [] (53, I, J, (ow_u (ow_u (ow_u (ow_u (ow_u (ow_u R 47 3 (some 48)) 47 4 (some 49)) 47 5 (some 50)) 46 2 (some 47)) 46 3 (some 51)) 46 4 (some 52))) _ _
  refine ow_aload_n 0 rfl d_Planner_init_29 ?_
  refine ow_bipush (v := 64) (by decide) d_Planner_init_30 ?_
  refine ow_newaI (N := 64) d_Planner_init_32 wa_int rfl rfl rfl (by decide) hz rfl rfl (by decide) (by decide) (by decide) ?_
  replace hz := ow_zz_n hz
  refine ow_pF 119 d_Planner_init_34 rfl rfl rfl rfl (by decide) rfl rfl (fun _ => ⟨rfl, rfl⟩) rfl ?_
  replace hz := ow_zz_R (o := 46) (k := 5) (r := 53) hz (by decide) (by decide)
  show ow_AW ow_Y1 (ow_Zn Q 7 96) M_Planner_init (d + 2) 7 96 37 [(0, .ref 46), (1, .ref 2), (2, .ref 39)] [] (54, I, J, (ow_u (ow_u (ow_u (ow_u (ow_u (ow_u (ow_u R 47 3 (some 48)) 47 4 (some 49)) 47 5 (some 50)) 46 2 (some 47)) 46 3 (some 51)) 46 4 (some 52)) 46 5 (some 53))) _ _
  refine ow_aload_n 0 rfl d_Planner_init_37 ?_
  refine ow_aload_n 1 rfl d_Planner_init_38 ?_
  refine ow_pF 114 d_Planner_init_39 rfl rfl rfl rfl (by decide) rfl rfl (fun _ => ⟨rfl, rfl⟩) rfl ?_
  replace hz := ow_zz_R (o := 46) (k := 0) (r := 2) hz (by decide) (by decide)
  show ow_AW ow_Y1 (ow_Zn Q 7 96) M_Planner_init (d + 2) 7 96 42 [(0, .ref 46), (1, .ref 2), (2, .ref 39)] [] (54, I, J, (ow_u (ow_u (ow_u (ow_u (ow_u (ow_u (ow_u (ow_u R 47 3 (some 48)) 47 4 (some 49)) 47 5 (some 50)) 46 2 (some 47)) 46 3 (some 51)) 46 4 (some 52)) 46 5 (some 53)) 46 0 (some 2))) _ _
  refine ow_aload_n 0 rfl d_Planner_init_42 ?_
  refine ow_aload_n 2 rfl d_Planner_init_43 ?_
  refine ow_pF 115 d_Planner_init_44 rfl rfl rfl rfl (by decide) rfl rfl (fun _ => ⟨rfl, rfl⟩) rfl ?_
  replace hz := ow_zz_R (o := 46) (k := 1) (r := 39) hz (by decide) (by decide)
  show ow_AW ow_Y1 (ow_Zn Q 7 96) M_Planner_init (d + 2) 7 96 47 [(0, .ref 46), (1, .ref 2), (2, .ref 39)] [] (54, I, J, (ow_u (ow_u (ow_u (ow_u (ow_u (ow_u (ow_u (ow_u (ow_u R 47 3 (some 48)) 47 4 (some 49)) 47 5 (some 50)) 46 2 (some 47)) 46 3 (some 51)) 46 4 (some 52)) 46 5 (some 53)) 46 0 (some 2)) 46 1 (some 39))) _ _
  exact ow_vretN d_Planner_init_47 rfl (by decide) (by decide) (T hz)
set_option maxRecDepth 8000 in
theorem n_Course_init_55 {d : Nat} {I : Nat → Nat → Int32} {J : Nat → Nat → Int64} {R : Nat → Nat → Option Nat} {Q : ow_H → Prop} (hz : ow_zz 56 I J R) (T : ow_zz 57 I J (ow_u R 55 0 (some 56)) → Q (57, I, J, (ow_u R 55 0 (some 56)))) : ow_AN M_Course_init (d + 1) 1 6 [.ref 55] (56, I, J, R) Q := by
  refine ow_enterN (by decide) (Nat.le_of_ble_eq_true rfl) ?_
  show ow_AW ow_Y1 (ow_Zn Q 1 6) M_Course_init (d + 1) 1 6 0 [(0, .ref 55)] [] (56, I, J, R) 0 0
  refine ow_aload_n 0 rfl d_Course_init_0 ?_
  refine ow_obj d_Course_init_1 wo_Course_3 wo_1 wo_2 (by omega) (Nat.le_of_ble_eq_true rfl) ?_
  refine ow_aload_n 0 rfl d_Course_init_4 ?_
  refine ow_bipush (v := 6) (by decide) d_Course_init_5 ?_
  refine ow_newaI (N := 6) d_Course_init_7 wa_int rfl rfl rfl (by decide) hz rfl rfl (by decide) (by decide) (by decide) ?_
  replace hz := ow_zz_n hz
  refine ow_pF 86 d_Course_init_9 rfl rfl rfl rfl (by decide) rfl rfl (fun _ => ⟨rfl, rfl⟩) rfl ?_
  replace hz := ow_zz_R (o := 55) (k := 0) (r := 56) hz (by decide) (by decide)
  show ow_AW ow_Y1 (ow_Zn Q 1 6) M_Course_init (d + 1) 1 6 12 [(0, .ref 55)] [] (57, I, J, (ow_u R 55 0 (some 56))) _ _
  exact ow_vretN d_Course_init_12 rfl (by decide) (by decide) (T hz)
set_option maxRecDepth 8000 in
theorem n_Scene_init_57 {d : Nat} {I : Nat → Nat → Int32} {J : Nat → Nat → Int64} {R : Nat → Nat → Option Nat} {Q : ow_H → Prop} (hz : ow_zz 58 I J R) (T : ow_zz 61 I J (ow_u (ow_u (ow_u R 57 3 (some 58)) 57 4 (some 59)) 57 5 (some 60)) → Q (61, I, J, (ow_u (ow_u (ow_u R 57 3 (some 58)) 57 4 (some 59)) 57 5 (some 60)))) : ow_AN M_Scene_init (d + 1) 3 18 [.ref 57] (58, I, J, R) Q := by
  refine ow_enterN (by decide) (Nat.le_of_ble_eq_true rfl) ?_
  show ow_AW ow_Y1 (ow_Zn Q 3 18) M_Scene_init (d + 1) 3 18 0 [(0, .ref 57)] [] (58, I, J, R) 0 0
  refine ow_aload_n 0 rfl d_Scene_init_0 ?_
  refine ow_obj d_Scene_init_1 wo_Scene_3 wo_1 wo_2 (by omega) (Nat.le_of_ble_eq_true rfl) ?_
  refine ow_aload_n 0 rfl d_Scene_init_4 ?_
  refine ow_bipush (v := 6) (by decide) d_Scene_init_5 ?_
  refine ow_newaI (N := 6) d_Scene_init_7 wa_int rfl rfl rfl (by decide) hz rfl rfl (by decide) (by decide) (by decide) ?_
  replace hz := ow_zz_n hz
  refine ow_pF 13 d_Scene_init_9 rfl rfl rfl rfl (by decide) rfl rfl (fun _ => ⟨rfl, rfl⟩) rfl ?_
  replace hz := ow_zz_R (o := 57) (k := 3) (r := 58) hz (by decide) (by decide)
  show ow_AW ow_Y1 (ow_Zn Q 3 18) M_Scene_init (d + 1) 3 18 12 [(0, .ref 57)] [] (59, I, J, (ow_u R 57 3 (some 58))) _ _
  refine ow_aload_n 0 rfl d_Scene_init_12 ?_
  refine ow_bipush (v := 6) (by decide) d_Scene_init_13 ?_
  refine ow_newaI (N := 6) d_Scene_init_15 wa_int rfl rfl rfl (by decide) hz rfl rfl (by decide) (by decide) (by decide) ?_
  replace hz := ow_zz_n hz
  refine ow_pF 16 d_Scene_init_17 rfl rfl rfl rfl (by decide) rfl rfl (fun _ => ⟨rfl, rfl⟩) rfl ?_
  replace hz := ow_zz_R (o := 57) (k := 4) (r := 59) hz (by decide) (by decide)
  show ow_AW ow_Y1 (ow_Zn Q 3 18) M_Scene_init (d + 1) 3 18 20 [(0, .ref 57)] [] (60, I, J, (ow_u (ow_u R 57 3 (some 58)) 57 4 (some 59))) _ _
  refine ow_aload_n 0 rfl d_Scene_init_20 ?_
  refine ow_bipush (v := 6) (by decide) d_Scene_init_21 ?_
  refine ow_newaI (N := 6) d_Scene_init_23 wa_int rfl rfl rfl (by decide) hz rfl rfl (by decide) (by decide) (by decide) ?_
  replace hz := ow_zz_n hz
  refine ow_pF 21 d_Scene_init_25 rfl rfl rfl rfl (by decide) rfl rfl (fun _ => ⟨rfl, rfl⟩) rfl ?_
  replace hz := ow_zz_R (o := 57) (k := 5) (r := 60) hz (by decide) (by decide)
  show ow_AW ow_Y1 (ow_Zn Q 3 18) M_Scene_init (d + 1) 3 18 28 [(0, .ref 57)] [] (61, I, J, (ow_u (ow_u (ow_u R 57 3 (some 58)) 57 4 (some 59)) 57 5 (some 60))) _ _
  exact ow_vretN d_Scene_init_28 rfl (by decide) (by decide) (T hz)
set_option maxRecDepth 8000 in
theorem n_Fits_init_54 {d : Nat} {I : Nat → Nat → Int32} {J : Nat → Nat → Int64} {R : Nat → Nat → Option Nat} {Q : ow_H → Prop} (hz : ow_zz 55 I J R) (T : ow_zz 62 I J (ow_u (ow_u (ow_u (ow_u (ow_u (ow_u (ow_u (ow_u R 55 0 (some 56)) 54 1 (some 55)) 57 3 (some 58)) 57 4 (some 59)) 57 5 (some 60)) 54 2 (some 57)) 54 3 (some 61)) 54 0 (some 2)) → Q (62, I, J, (ow_u (ow_u (ow_u (ow_u (ow_u (ow_u (ow_u (ow_u R 55 0 (some 56)) 54 1 (some 55)) 57 3 (some 58)) 57 4 (some 59)) 57 5 (some 60)) 54 2 (some 57)) 54 3 (some 61)) 54 0 (some 2)))) : ow_AN M_Fits_init (d + 2) 7 160 [.ref 54, .ref 2] (55, I, J, R) Q := by
  refine ow_enterN (by decide) (Nat.le_of_ble_eq_true rfl) ?_
  show ow_AW ow_Y1 (ow_Zn Q 7 160) M_Fits_init (d + 2) 7 160 0 [(0, .ref 54), (1, .ref 2)] [] (55, I, J, R) 0 0
  refine ow_aload_n 0 rfl d_Fits_init_0 ?_
  refine ow_obj d_Fits_init_1 wo_Fits_3 wo_1 wo_2 (by omega) (Nat.le_of_ble_eq_true rfl) ?_
  refine ow_aload_n 0 rfl d_Fits_init_4 ?_
  refine ow_new (ci := 0) d_Fits_init_5 wl_Fits_9 wi_0 wz_0 rfl (by decide) hz rfl rfl (by decide) (by decide) (by decide) ?_
  replace hz := ow_zz_n hz
  refine ow_dup rfl d_Fits_init_8 ?_
  refine ow_callN (M2 := M_Course_init) (d2 := d + 1) (mc2 := 1) (ms2 := 6) (b := 55) (As := []) (rest := [.ref 55, .ref 54]) d_Fits_init_9 10 rfl b_Course_init bi_Course_init rfl rfl (Nat.le_of_ble_eq_true rfl) (by omega) (by decide) (by decide) rfl rfl (n_Course_init_55 (d := d + 0) hz (fun hz1 => ⟨show 57 ≤ 56 + 1 by decide, ?_⟩))
  replace hz := hz1
  clear hz1
  show ow_AW ow_Y1 (ow_Zn Q 7 160) M_Fits_init (d + 2) 7 160 12 [(0, .ref 54), (1, .ref 2)] [.ref 55, .ref 54] (57, I, J, (ow_u R 55 0 (some 56))) _ _
  refine ow_pF 126 d_Fits_init_12 rfl rfl rfl rfl (by decide) rfl rfl (fun _ => ⟨rfl, rfl⟩) rfl ?_
  replace hz := ow_zz_R (o := 54) (k := 1) (r := 55) hz (by decide) (by decide)
  show ow_AW ow_Y1 (ow_Zn Q 7 160) M_Fits_init (d + 2) 7 160 15 [(0, .ref 54), (1, .ref 2)] [] (57, I, J, (ow_u (ow_u R 55 0 (some 56)) 54 1 (some 55))) _ _
  refine ow_aload_n 0 rfl d_Fits_init_15 ?_
  refine ow_new (ci := 4) d_Fits_init_16 wl_Fits_18 wi_4 wz_4 rfl (by decide) hz rfl rfl (by decide) (by decide) (by decide) ?_
  replace hz := ow_zz_n hz
  refine ow_dup rfl d_Fits_init_19 ?_
  refine ow_callN (M2 := M_Scene_init) (d2 := d + 1) (mc2 := 3) (ms2 := 18) (b := 57) (As := []) (rest := [.ref 57, .ref 54]) d_Fits_init_20 11 rfl b_Scene_init bi_Scene_init rfl rfl (Nat.le_of_ble_eq_true rfl) (by omega) (by decide) (by decide) rfl rfl (n_Scene_init_57 (d := d + 0) hz (fun hz1 => ⟨show 61 ≤ 58 + 3 by decide, ?_⟩))
  replace hz := hz1
  clear hz1
  show ow_AW ow_Y1 (ow_Zn Q 7 160) M_Fits_init (d + 2) 7 160 23 [(0, .ref 54), (1, .ref 2)] [.ref 57, .ref 54] (61, I, J, (ow_u (ow_u (ow_u (ow_u (ow_u R 55 0 (some 56)) 54 1 (some 55)) 57 3 (some 58)) 57 4 (some 59)) 57 5 (some 60))) _ _
  refine ow_pF 127 d_Fits_init_23 rfl rfl rfl rfl (by decide) rfl rfl (fun _ => ⟨rfl, rfl⟩) rfl ?_
  replace hz := ow_zz_R (o := 54) (k := 2) (r := 57) hz (by decide) (by decide)
  show ow_AW ow_Y1 (ow_Zn Q 7 160) M_Fits_init (d + 2) 7 160 26 [(0, .ref 54), (1, .ref 2)] [] (61, I, J, (ow_u (ow_u (ow_u (ow_u (ow_u (ow_u R 55 0 (some 56)) 54 1 (some 55)) 57 3 (some 58)) 57 4 (some 59)) 57 5 (some 60)) 54 2 (some 57))) _ _
  refine ow_aload_n 0 rfl d_Fits_init_26 ?_
  refine ow_bipush (v := 125) (by decide) d_Fits_init_27 ?_
  refine ow_newaI (N := 125) d_Fits_init_29 wa_int rfl rfl rfl (by decide) hz rfl rfl (by decide) (by decide) (by decide) ?_
  replace hz := ow_zz_n hz
  refine ow_pF 128 d_Fits_init_31 rfl rfl rfl rfl (by decide) rfl rfl (fun _ => ⟨rfl, rfl⟩) rfl ?_
  replace hz := ow_zz_R (o := 54) (k := 3) (r := 61) hz (by decide) (by decide)
  show ow_AW ow_Y1 (ow_Zn Q 7 160) M_Fits_init (d + 2) 7 160 34 [(0, .ref 54), (1, .ref 2)] [] (62, I, J, (ow_u (ow_u (ow_u (ow_u (ow_u (ow_u (ow_u R 55 0 (some 56)) 54 1 (some 55)) 57 3 (some 58)) 57 4 (some 59)) 57 5 (some 60)) 54 2 (some 57)) 54 3 (some 61))) _ _
  refine ow_aload_n 0 rfl d_Fits_init_34 ?_
  refine ow_aload_n 1 rfl d_Fits_init_35 ?_
  refine ow_pF 125 d_Fits_init_36 rfl rfl rfl rfl (by decide) rfl rfl (fun _ => ⟨rfl, rfl⟩) rfl ?_
  replace hz := ow_zz_R (o := 54) (k := 0) (r := 2) hz (by decide) (by decide)
  show ow_AW ow_Y1 (ow_Zn Q 7 160) M_Fits_init (d + 2) 7 160 39 [(0, .ref 54), (1, .ref 2)] [] (62, I, J, (ow_u (ow_u (ow_u (ow_u (ow_u (ow_u (ow_u (ow_u R 55 0 (some 56)) 54 1 (some 55)) 57 3 (some 58)) 57 4 (some 59)) 57 5 (some 60)) 54 2 (some 57)) 54 3 (some 61)) 54 0 (some 2))) _ _
  exact ow_vretN d_Fits_init_39 rfl (by decide) (by decide) (T hz)
set_option maxRecDepth 8000 in
theorem n_Votes_init_62 {d : Nat} {I : Nat → Nat → Int32} {J : Nat → Nat → Int64} {R : Nat → Nat → Option Nat} {Q : ow_H → Prop} (hz : ow_zz 63 I J R) (T : ow_zz 63 I J (ow_u R 62 0 (some 2)) → Q (63, I, J, (ow_u R 62 0 (some 2)))) : ow_AN M_Votes_init (d + 1) 0 0 [.ref 62, .ref 2] (63, I, J, R) Q := by
  refine ow_enterN (by decide) (Nat.le_of_ble_eq_true rfl) ?_
  show ow_AW ow_Y1 (ow_Zn Q 0 0) M_Votes_init (d + 1) 0 0 0 [(0, .ref 62), (1, .ref 2)] [] (63, I, J, R) 0 0
  refine ow_aload_n 0 rfl d_Votes_init_0 ?_
  refine ow_obj d_Votes_init_1 wo_Votes_3 wo_1 wo_2 (by omega) (Nat.le_of_ble_eq_true rfl) ?_
  refine ow_aload_n 0 rfl d_Votes_init_4 ?_
  refine ow_aload_n 1 rfl d_Votes_init_5 ?_
  refine ow_pF 136 d_Votes_init_6 rfl rfl rfl rfl (by decide) rfl rfl (fun _ => ⟨rfl, rfl⟩) rfl ?_
  replace hz := ow_zz_R (o := 62) (k := 0) (r := 2) hz (by decide) (by decide)
  show ow_AW ow_Y1 (ow_Zn Q 0 0) M_Votes_init (d + 1) 0 0 9 [(0, .ref 62), (1, .ref 2)] [] (63, I, J, (ow_u R 62 0 (some 2))) _ _
  exact ow_vretN d_Votes_init_9 rfl (by decide) (by decide) (T hz)
set_option maxRecDepth 8000 in
theorem n_Course_init_64 {d : Nat} {I : Nat → Nat → Int32} {J : Nat → Nat → Int64} {R : Nat → Nat → Option Nat} {Q : ow_H → Prop} (hz : ow_zz 65 I J R) (T : ow_zz 66 I J (ow_u R 64 0 (some 65)) → Q (66, I, J, (ow_u R 64 0 (some 65)))) : ow_AN M_Course_init (d + 1) 1 6 [.ref 64] (65, I, J, R) Q := by
  refine ow_enterN (by decide) (Nat.le_of_ble_eq_true rfl) ?_
  show ow_AW ow_Y1 (ow_Zn Q 1 6) M_Course_init (d + 1) 1 6 0 [(0, .ref 64)] [] (65, I, J, R) 0 0
  refine ow_aload_n 0 rfl d_Course_init_0 ?_
  refine ow_obj d_Course_init_1 wo_Course_3 wo_1 wo_2 (by omega) (Nat.le_of_ble_eq_true rfl) ?_
  refine ow_aload_n 0 rfl d_Course_init_4 ?_
  refine ow_bipush (v := 6) (by decide) d_Course_init_5 ?_
  refine ow_newaI (N := 6) d_Course_init_7 wa_int rfl rfl rfl (by decide) hz rfl rfl (by decide) (by decide) (by decide) ?_
  replace hz := ow_zz_n hz
  refine ow_pF 86 d_Course_init_9 rfl rfl rfl rfl (by decide) rfl rfl (fun _ => ⟨rfl, rfl⟩) rfl ?_
  replace hz := ow_zz_R (o := 64) (k := 0) (r := 65) hz (by decide) (by decide)
  show ow_AW ow_Y1 (ow_Zn Q 1 6) M_Course_init (d + 1) 1 6 12 [(0, .ref 64)] [] (66, I, J, (ow_u R 64 0 (some 65))) _ _
  exact ow_vretN d_Course_init_12 rfl (by decide) (by decide) (T hz)
set_option maxRecDepth 8000 in
theorem n_Winds_init_63 {d : Nat} {I : Nat → Nat → Int32} {J : Nat → Nat → Int64} {R : Nat → Nat → Option Nat} {Q : ow_H → Prop} (hz : ow_zz 64 I J R) (T : ow_zz 66 I J (ow_u (ow_u (ow_u R 64 0 (some 65)) 63 1 (some 64)) 63 0 (some 2)) → Q (66, I, J, (ow_u (ow_u (ow_u R 64 0 (some 65)) 63 1 (some 64)) 63 0 (some 2)))) : ow_AN M_Winds_init (d + 2) 2 11 [.ref 63, .ref 2] (64, I, J, R) Q := by
  refine ow_enterN (by decide) (Nat.le_of_ble_eq_true rfl) ?_
  show ow_AW ow_Y1 (ow_Zn Q 2 11) M_Winds_init (d + 2) 2 11 0 [(0, .ref 63), (1, .ref 2)] [] (64, I, J, R) 0 0
  refine ow_aload_n 0 rfl d_Winds_init_0 ?_
  refine ow_obj d_Winds_init_1 wo_Winds_3 wo_1 wo_2 (by omega) (Nat.le_of_ble_eq_true rfl) ?_
  refine ow_aload_n 0 rfl d_Winds_init_4 ?_
  refine ow_new (ci := 0) d_Winds_init_5 wl_Winds_9 wi_0 wz_0 rfl (by decide) hz rfl rfl (by decide) (by decide) (by decide) ?_
  replace hz := ow_zz_n hz
  refine ow_dup rfl d_Winds_init_8 ?_
  refine ow_callN (M2 := M_Course_init) (d2 := d + 1) (mc2 := 1) (ms2 := 6) (b := 64) (As := []) (rest := [.ref 64, .ref 63]) d_Winds_init_9 12 rfl b_Course_init bi_Course_init rfl rfl (Nat.le_of_ble_eq_true rfl) (by omega) (by decide) (by decide) rfl rfl (n_Course_init_64 (d := d + 0) hz (fun hz1 => ⟨show 66 ≤ 65 + 1 by decide, ?_⟩))
  replace hz := hz1
  clear hz1
  show ow_AW ow_Y1 (ow_Zn Q 2 11) M_Winds_init (d + 2) 2 11 12 [(0, .ref 63), (1, .ref 2)] [.ref 64, .ref 63] (66, I, J, (ow_u R 64 0 (some 65))) _ _
  refine ow_pF 138 d_Winds_init_12 rfl rfl rfl rfl (by decide) rfl rfl (fun _ => ⟨rfl, rfl⟩) rfl ?_
  replace hz := ow_zz_R (o := 63) (k := 1) (r := 64) hz (by decide) (by decide)
  show ow_AW ow_Y1 (ow_Zn Q 2 11) M_Winds_init (d + 2) 2 11 15 [(0, .ref 63), (1, .ref 2)] [] (66, I, J, (ow_u (ow_u R 64 0 (some 65)) 63 1 (some 64))) _ _
  refine ow_aload_n 0 rfl d_Winds_init_15 ?_
  refine ow_aload_n 1 rfl d_Winds_init_16 ?_
  refine ow_pF 137 d_Winds_init_17 rfl rfl rfl rfl (by decide) rfl rfl (fun _ => ⟨rfl, rfl⟩) rfl ?_
  replace hz := ow_zz_R (o := 63) (k := 0) (r := 2) hz (by decide) (by decide)
  show ow_AW ow_Y1 (ow_Zn Q 2 11) M_Winds_init (d + 2) 2 11 20 [(0, .ref 63), (1, .ref 2)] [] (66, I, J, (ow_u (ow_u (ow_u R 64 0 (some 65)) 63 1 (some 64)) 63 0 (some 2))) _ _
  exact ow_vretN d_Winds_init_20 rfl (by decide) (by decide) (T hz)
set_option maxRecDepth 8000 in
theorem n_Snaps_init_66 {d : Nat} {I : Nat → Nat → Int32} {J : Nat → Nat → Int64} {R : Nat → Nat → Option Nat} {Q : ow_H → Prop} (hz : ow_zz 67 I J R) (T : ow_zz 68 (ow_u I 66 0 16) J (ow_u R 66 1 (some 67)) → Q (68, (ow_u I 66 0 16), J, (ow_u R 66 1 (some 67)))) : ow_AN M_Snaps_init (d + 1) 1 224 [.ref 66, .int 16] (67, I, J, R) Q := by
  refine ow_enterN (by decide) (Nat.le_of_ble_eq_true rfl) ?_
  show ow_AW ow_Y1 (ow_Zn Q 1 224) M_Snaps_init (d + 1) 1 224 0 [(0, .ref 66), (1, .int 16)] [] (67, I, J, R) 0 0
  refine ow_aload_n 0 rfl d_Snaps_init_0 ?_
  refine ow_obj d_Snaps_init_1 wo_Snaps_3 wo_1 wo_2 (by omega) (Nat.le_of_ble_eq_true rfl) ?_
  refine ow_aload_n 0 rfl d_Snaps_init_4 ?_
  refine ow_iload_n 1 rfl d_Snaps_init_5 ?_
  refine ow_if_le (tgt := 13) d_Snaps_init_6 (by decide) (fun c => absurd c (by decide)) (fun c => ?_)
  refine ow_iload_n 1 rfl d_Snaps_init_9 ?_
  refine ow_goto (tgt := 14) d_Snaps_init_10 (by decide) ?_
  refine ow_pIF 147 d_Snaps_init_14 rfl rfl rfl rfl (by decide) rfl rfl rfl ?_
  replace hz := ow_zz_I (o := 66) (k := 0) (v := 16) hz (by decide)
  show ow_AW ow_Y1 (ow_Zn Q 1 224) M_Snaps_init (d + 1) 1 224 17 [(0, .ref 66), (1, .int 16)] [] (67, (ow_u I 66 0 16), J, R) _ _
  refine ow_aload_n 0 rfl d_Snaps_init_17 ?_
  refine ow_aload_n 0 rfl d_Snaps_init_18 ?_
  refine ow_getI 147 d_Snaps_init_19 rfl rfl (show 66 < 67 by decide) rfl (Or.inl rfl) ?_
  refine ow_bipush (v := 14) (by decide) d_Snaps_init_22 ?_
  refine ow_imul d_Snaps_init_24 ?_
  refine ow_newaI (N := 224) d_Snaps_init_25 wa_int rfl rfl (by show (((ow_u I 66 0 16) 66 0) * 14) = nI 224; rw [ow_u_at]; rfl) (by decide) hz rfl rfl (by decide) (by decide) (by decide) ?_
  replace hz := ow_zz_n hz
  refine ow_pF 148 d_Snaps_init_27 rfl rfl rfl rfl (by decide) rfl rfl (fun _ => ⟨rfl, rfl⟩) rfl ?_
  replace hz := ow_zz_R (o := 66) (k := 1) (r := 67) hz (by decide) (by decide)
  show ow_AW ow_Y1 (ow_Zn Q 1 224) M_Snaps_init (d + 1) 1 224 30 [(0, .ref 66), (1, .int 16)] [] (68, (ow_u I 66 0 16), J, (ow_u R 66 1 (some 67))) _ _
  exact ow_vretN d_Snaps_init_30 rfl (by decide) (by decide) (T hz)
set_option maxRecDepth 8000 in
theorem n_Snaps_init_68 {d : Nat} {I : Nat → Nat → Int32} {J : Nat → Nat → Int64} {R : Nat → Nat → Option Nat} {Q : ow_H → Prop} (hz : ow_zz 69 I J R) (T : ow_zz 70 (ow_u I 68 0 3) J (ow_u R 68 1 (some 69)) → Q (70, (ow_u I 68 0 3), J, (ow_u R 68 1 (some 69)))) : ow_AN M_Snaps_init (d + 1) 1 42 [.ref 68, .int 3] (69, I, J, R) Q := by
  refine ow_enterN (by decide) (Nat.le_of_ble_eq_true rfl) ?_
  show ow_AW ow_Y1 (ow_Zn Q 1 42) M_Snaps_init (d + 1) 1 42 0 [(0, .ref 68), (1, .int 3)] [] (69, I, J, R) 0 0
  refine ow_aload_n 0 rfl d_Snaps_init_0 ?_
  refine ow_obj d_Snaps_init_1 wo_Snaps_3 wo_1 wo_2 (by omega) (Nat.le_of_ble_eq_true rfl) ?_
  refine ow_aload_n 0 rfl d_Snaps_init_4 ?_
  refine ow_iload_n 1 rfl d_Snaps_init_5 ?_
  refine ow_if_le (tgt := 13) d_Snaps_init_6 (by decide) (fun c => absurd c (by decide)) (fun c => ?_)
  refine ow_iload_n 1 rfl d_Snaps_init_9 ?_
  refine ow_goto (tgt := 14) d_Snaps_init_10 (by decide) ?_
  refine ow_pIF 147 d_Snaps_init_14 rfl rfl rfl rfl (by decide) rfl rfl rfl ?_
  replace hz := ow_zz_I (o := 68) (k := 0) (v := 3) hz (by decide)
  show ow_AW ow_Y1 (ow_Zn Q 1 42) M_Snaps_init (d + 1) 1 42 17 [(0, .ref 68), (1, .int 3)] [] (69, (ow_u I 68 0 3), J, R) _ _
  refine ow_aload_n 0 rfl d_Snaps_init_17 ?_
  refine ow_aload_n 0 rfl d_Snaps_init_18 ?_
  refine ow_getI 147 d_Snaps_init_19 rfl rfl (show 68 < 69 by decide) rfl (Or.inl rfl) ?_
  refine ow_bipush (v := 14) (by decide) d_Snaps_init_22 ?_
  refine ow_imul d_Snaps_init_24 ?_
  refine ow_newaI (N := 42) d_Snaps_init_25 wa_int rfl rfl (by show (((ow_u I 68 0 3) 68 0) * 14) = nI 42; rw [ow_u_at]; rfl) (by decide) hz rfl rfl (by decide) (by decide) (by decide) ?_
  replace hz := ow_zz_n hz
  refine ow_pF 148 d_Snaps_init_27 rfl rfl rfl rfl (by decide) rfl rfl (fun _ => ⟨rfl, rfl⟩) rfl ?_
  replace hz := ow_zz_R (o := 68) (k := 1) (r := 69) hz (by decide) (by decide)
  show ow_AW ow_Y1 (ow_Zn Q 1 42) M_Snaps_init (d + 1) 1 42 30 [(0, .ref 68), (1, .int 3)] [] (70, (ow_u I 68 0 3), J, (ow_u R 68 1 (some 69))) _ _
  exact ow_vretN d_Snaps_init_30 rfl (by decide) (by decide) (T hz)
set_option maxRecDepth 8000 in
theorem n_Fs_init_0 {d : Nat} {I : Nat → Nat → Int32} {J : Nat → Nat → Int64} {R : Nat → Nat → Option Nat} {Q : ow_H → Prop} (hz : ow_zz 1 I J R) (T : ow_zz 70 (ow_u (ow_u I 66 0 16) 68 0 3) J (ow_u (ow_u (ow_u (ow_u (ow_u (ow_u (ow_u (ow_u (ow_u (ow_u (ow_u (ow_u (ow_u (ow_u (ow_u (ow_u (ow_u (ow_u (ow_u (ow_u (ow_u (ow_u (ow_u (ow_u (ow_u (ow_u (ow_u (ow_u (ow_u (ow_u (ow_u (ow_u (ow_u (ow_u (ow_u (ow_u (ow_u (ow_u (ow_u (ow_u (ow_u (ow_u (ow_u (ow_u (ow_u (ow_u (ow_u (ow_u (ow_u (ow_u (ow_u (ow_u (ow_u (ow_u (ow_u (ow_u (ow_u (ow_u (ow_u (ow_u (ow_u (ow_u (ow_u (ow_u (ow_u (ow_u (ow_u (ow_u (ow_u (ow_u (ow_u (ow_u (ow_u (ow_u (ow_u R 0 0 (some 1)) 3 3 (some 4)) 3 4 (some 5)) 3 5 (some 6)) 2 2 (some 3)) 2 4 (some 7)) 2 5 (some 8)) 2 6 (some 9)) 2 8 (some 10)) 2 10 (some 11)) 2 11 (some 12)) 0 2 (some 2)) 15 3 (some 16)) 15 4 (some 17)) 15 5 (some 18)) 14 2 (some 15)) 14 4 (some 19)) 14 5 (some 20)) 14 6 (some 21)) 14 8 (some 22)) 14 10 (some 23)) 14 11 (some 24)) 13 0 (some 14)) 25 0 (some 26)) 13 1 (some 25)) 13 2 (some 27)) 13 3 (some 28)) 0 3 (some 13)) 29 3 (some 30)) 29 4 (some 31)) 29 5 (some 32)) 0 4 (some 29)) 33 3 (some 34)) 33 4 (some 35)) 33 5 (some 36)) 0 5 (some 33)) 37 0 (some 38)) 0 6 (some 37)) 40 0 (some 41)) 39 1 (some 40)) 42 3 (some 43)) 42 4 (some 44)) 42 5 (some 45)) 39 2 (some 42)) 39 0 (some 2)) 0 7 (some 39)) 47 3 (some 48)) 47 4 (some 49)) 47 5 (some 50)) 46 2 (some 47)) 46 3 (some 51)) 46 4 (some 52)) 46 5 (some 53)) 46 0 (some 2)) 46 1 (some 39)) 0 8 (some 46)) 55 0 (some 56)) 54 1 (some 55)) 57 3 (some 58)) 57 4 (some 59)) 57 5 (some 60)) 54 2 (some 57)) 54 3 (some 61)) 54 0 (some 2)) 0 9 (some 54)) 62 0 (some 2)) 0 10 (some 62)) 64 0 (some 65)) 63 1 (some 64)) 63 0 (some 2)) 0 11 (some 63)) 66 1 (some 67)) 0 12 (some 66)) 68 1 (some 69)) 0 13 (some 68)) → Q (70, (ow_u (ow_u I 66 0 16) 68 0 3), J, (ow_u (ow_u (ow_u (ow_u (ow_u (ow_u (ow_u (ow_u (ow_u (ow_u (ow_u (ow_u (ow_u (ow_u (ow_u (ow_u (ow_u (ow_u (ow_u (ow_u (ow_u (ow_u (ow_u (ow_u (ow_u (ow_u (ow_u (ow_u (ow_u (ow_u (ow_u (ow_u (ow_u (ow_u (ow_u (ow_u (ow_u (ow_u (ow_u (ow_u (ow_u (ow_u (ow_u (ow_u (ow_u (ow_u (ow_u (ow_u (ow_u (ow_u (ow_u (ow_u (ow_u (ow_u (ow_u (ow_u (ow_u (ow_u (ow_u (ow_u (ow_u (ow_u (ow_u (ow_u (ow_u (ow_u (ow_u (ow_u (ow_u (ow_u (ow_u (ow_u (ow_u (ow_u (ow_u R 0 0 (some 1)) 3 3 (some 4)) 3 4 (some 5)) 3 5 (some 6)) 2 2 (some 3)) 2 4 (some 7)) 2 5 (some 8)) 2 6 (some 9)) 2 8 (some 10)) 2 10 (some 11)) 2 11 (some 12)) 0 2 (some 2)) 15 3 (some 16)) 15 4 (some 17)) 15 5 (some 18)) 14 2 (some 15)) 14 4 (some 19)) 14 5 (some 20)) 14 6 (some 21)) 14 8 (some 22)) 14 10 (some 23)) 14 11 (some 24)) 13 0 (some 14)) 25 0 (some 26)) 13 1 (some 25)) 13 2 (some 27)) 13 3 (some 28)) 0 3 (some 13)) 29 3 (some 30)) 29 4 (some 31)) 29 5 (some 32)) 0 4 (some 29)) 33 3 (some 34)) 33 4 (some 35)) 33 5 (some 36)) 0 5 (some 33)) 37 0 (some 38)) 0 6 (some 37)) 40 0 (some 41)) 39 1 (some 40)) 42 3 (some 43)) 42 4 (some 44)) 42 5 (some 45)) 39 2 (some 42)) 39 0 (some 2)) 0 7 (some 39)) 47 3 (some 48)) 47 4 (some 49)) 47 5 (some 50)) 46 2 (some 47)) 46 3 (some 51)) 46 4 (some 52)) 46 5 (some 53)) 46 0 (some 2)) 46 1 (some 39)) 0 8 (some 46)) 55 0 (some 56)) 54 1 (some 55)) 57 3 (some 58)) 57 4 (some 59)) 57 5 (some 60)) 54 2 (some 57)) 54 3 (some 61)) 54 0 (some 2)) 0 9 (some 54)) 62 0 (some 2)) 0 10 (some 62)) 64 0 (some 65)) 63 1 (some 64)) 63 0 (some 2)) 0 11 (some 63)) 66 1 (some 67)) 0 12 (some 66)) 68 1 (some 69)) 0 13 (some 68)))) : ow_AN M_Fs_init (d + 4) 69 1720 [.ref 0] (1, I, J, R) Q := by
  refine ow_enterN (by decide) (Nat.le_of_ble_eq_true rfl) ?_
  show ow_AW ow_Y1 (ow_Zn Q 69 1720) M_Fs_init (d + 4) 69 1720 0 [(0, .ref 0)] [] (1, I, J, R) 0 0
  refine ow_aload_n 0 rfl d_Fs_init_0 ?_
  refine ow_obj d_Fs_init_1 wo_Fs_1 wo_1 wo_2 (by omega) (Nat.le_of_ble_eq_true rfl) ?_
  refine ow_aload_n 0 rfl d_Fs_init_4 ?_
  refine ow_sipush (v := 900) (by decide) d_Fs_init_5 ?_
  refine ow_newaB (N := 900) d_Fs_init_8 wa_byte rfl rfl rfl (by decide) hz rfl rfl (by decide) (by decide) (by decide) ?_
  replace hz := ow_zz_n hz
  refine ow_pF 151 d_Fs_init_10 rfl rfl rfl rfl (by decide) rfl rfl (fun _ => ⟨rfl, rfl⟩) rfl ?_
  replace hz := ow_zz_R (o := 0) (k := 0) (r := 1) hz (by decide) (by decide)
  show ow_AW ow_Y1 (ow_Zn Q 69 1720) M_Fs_init (d + 4) 69 1720 13 [(0, .ref 0)] [] (2, I, J, (ow_u R 0 0 (some 1))) _ _
  refine ow_aload_n 0 rfl d_Fs_init_13 ?_
  refine ow_new (ci := 8) d_Fs_init_14 wl_Fs_13 wi_8 wz_8 rfl (by decide) hz rfl rfl (by decide) (by decide) (by decide) ?_
  replace hz := ow_zz_n hz
  refine ow_dup rfl d_Fs_init_17 ?_
  refine ow_callN (M2 := M_Told_init) (d2 := d + 3) (mc2 := 10) (ms2 := 53) (b := 2) (As := []) (rest := [.ref 2, .ref 0]) d_Fs_init_18 0 rfl b_Told_init bi_Told_init rfl rfl (Nat.le_of_ble_eq_true rfl) (by omega) (by decide) (by decide) rfl rfl (n_Told_init_2 (d := d + 1) hz (fun hz1 => ⟨show 13 ≤ 3 + 10 by decide, ?_⟩))
  replace hz := hz1
  clear hz1
  show ow_AW ow_Y1 (ow_Zn Q 69 1720) M_Fs_init (d + 4) 69 1720 21 [(0, .ref 0)] [.ref 2, .ref 0] (13, I, J, (ow_u (ow_u (ow_u (ow_u (ow_u (ow_u (ow_u (ow_u (ow_u (ow_u (ow_u R 0 0 (some 1)) 3 3 (some 4)) 3 4 (some 5)) 3 5 (some 6)) 2 2 (some 3)) 2 4 (some 7)) 2 5 (some 8)) 2 6 (some 9)) 2 8 (some 10)) 2 10 (some 11)) 2 11 (some 12))) _ _
  refine ow_pF 153 d_Fs_init_21 rfl rfl rfl rfl (by decide) rfl rfl (fun _ => ⟨rfl, rfl⟩) rfl ?_
  replace hz := ow_zz_R (o := 0) (k := 2) (r := 2) hz (by decide) (by decide)
  show ow_AW ow_Y1 (ow_Zn Q 69 1720) M_Fs_init (d + 4) 69 1720 24 [(0, .ref 0)] [] (13, I, J, (ow_u (ow_u (ow_u (ow_u (ow_u (ow_u (ow_u (ow_u (ow_u (ow_u (ow_u (ow_u R 0 0 (some 1)) 3 3 (some 4)) 3 4 (some 5)) 3 5 (some 6)) 2 2 (some 3)) 2 4 (some 7)) 2 5 (some 8)) 2 6 (some 9)) 2 8 (some 10)) 2 10 (some 11)) 2 11 (some 12)) 0 2 (some 2))) _ _
  refine ow_aload_n 0 rfl d_Fs_init_24 ?_
  refine ow_new (ci := 3) d_Fs_init_25 wl_Fs_20 wi_3 wz_3 rfl (by decide) hz rfl rfl (by decide) (by decide) (by decide) ?_
  replace hz := ow_zz_n hz
  refine ow_dup rfl d_Fs_init_28 ?_
  refine ow_callN (M2 := M_Reader_init) (d2 := d + 3) (mc2 := 15) (ms2 := 81) (b := 13) (As := []) (rest := [.ref 13, .ref 0]) d_Fs_init_29 2 rfl b_Reader_init bi_Reader_init rfl rfl (Nat.le_of_ble_eq_true rfl) (by omega) (by decide) (by decide) rfl rfl (n_Reader_init_13 (d := d + 0) hz (fun hz1 => ⟨show 29 ≤ 14 + 15 by decide, ?_⟩))
  replace hz := hz1
  clear hz1
  show ow_AW ow_Y1 (ow_Zn Q 69 1720) M_Fs_init (d + 4) 69 1720 32 [(0, .ref 0)] [.ref 13, .ref 0] (29, I, J, (ow_u (ow_u (ow_u (ow_u (ow_u (ow_u (ow_u (ow_u (ow_u (ow_u (ow_u (ow_u (ow_u (ow_u (ow_u (ow_u (ow_u (ow_u (ow_u (ow_u (ow_u (ow_u (ow_u (ow_u (ow_u (ow_u (ow_u R 0 0 (some 1)) 3 3 (some 4)) 3 4 (some 5)) 3 5 (some 6)) 2 2 (some 3)) 2 4 (some 7)) 2 5 (some 8)) 2 6 (some 9)) 2 8 (some 10)) 2 10 (some 11)) 2 11 (some 12)) 0 2 (some 2)) 15 3 (some 16)) 15 4 (some 17)) 15 5 (some 18)) 14 2 (some 15)) 14 4 (some 19)) 14 5 (some 20)) 14 6 (some 21)) 14 8 (some 22)) 14 10 (some 23)) 14 11 (some 24)) 13 0 (some 14)) 25 0 (some 26)) 13 1 (some 25)) 13 2 (some 27)) 13 3 (some 28))) _ _
  refine ow_pF 154 d_Fs_init_32 rfl rfl rfl rfl (by decide) rfl rfl (fun _ => ⟨rfl, rfl⟩) rfl ?_
  replace hz := ow_zz_R (o := 0) (k := 3) (r := 13) hz (by decide) (by decide)
  show ow_AW ow_Y1 (ow_Zn Q 69 1720) M_Fs_init (d + 4) 69 1720 35 [(0, .ref 0)] [] (29, I, J, (ow_u (ow_u (ow_u (ow_u (ow_u (ow_u (ow_u (ow_u (ow_u (ow_u (ow_u (ow_u (ow_u (ow_u (ow_u (ow_u (ow_u (ow_u (ow_u (ow_u (ow_u (ow_u (ow_u (ow_u (ow_u (ow_u (ow_u (ow_u R 0 0 (some 1)) 3 3 (some 4)) 3 4 (some 5)) 3 5 (some 6)) 2 2 (some 3)) 2 4 (some 7)) 2 5 (some 8)) 2 6 (some 9)) 2 8 (some 10)) 2 10 (some 11)) 2 11 (some 12)) 0 2 (some 2)) 15 3 (some 16)) 15 4 (some 17)) 15 5 (some 18)) 14 2 (some 15)) 14 4 (some 19)) 14 5 (some 20)) 14 6 (some 21)) 14 8 (some 22)) 14 10 (some 23)) 14 11 (some 24)) 13 0 (some 14)) 25 0 (some 26)) 13 1 (some 25)) 13 2 (some 27)) 13 3 (some 28)) 0 3 (some 13))) _ _
  refine ow_aload_n 0 rfl d_Fs_init_35 ?_
  refine ow_new (ci := 4) d_Fs_init_36 wl_Fs_27 wi_4 wz_4 rfl (by decide) hz rfl rfl (by decide) (by decide) (by decide) ?_
  replace hz := ow_zz_n hz
  refine ow_dup rfl d_Fs_init_39 ?_
  refine ow_callN (M2 := M_Scene_init) (d2 := d + 3) (mc2 := 3) (ms2 := 18) (b := 29) (As := []) (rest := [.ref 29, .ref 0]) d_Fs_init_40 5 rfl b_Scene_init bi_Scene_init rfl rfl (Nat.le_of_ble_eq_true rfl) (by omega) (by decide) (by decide) rfl rfl (n_Scene_init_29 (d := d + 2) hz (fun hz1 => ⟨show 33 ≤ 30 + 3 by decide, ?_⟩))
  replace hz := hz1
  clear hz1
  show ow_AW ow_Y1 (ow_Zn Q 69 1720) M_Fs_init (d + 4) 69 1720 43 [(0, .ref 0)] [.ref 29, .ref 0] (33, I, J, (ow_u (ow_u (ow_u (ow_u (ow_u (ow_u (ow_u (ow_u (ow_u (ow_u (ow_u (ow_u (ow_u (ow_u (ow_u (ow_u (ow_u (ow_u (ow_u (ow_u (ow_u (ow_u (ow_u (ow_u (ow_u (ow_u (ow_u (ow_u (ow_u (ow_u (ow_u R 0 0 (some 1)) 3 3 (some 4)) 3 4 (some 5)) 3 5 (some 6)) 2 2 (some 3)) 2 4 (some 7)) 2 5 (some 8)) 2 6 (some 9)) 2 8 (some 10)) 2 10 (some 11)) 2 11 (some 12)) 0 2 (some 2)) 15 3 (some 16)) 15 4 (some 17)) 15 5 (some 18)) 14 2 (some 15)) 14 4 (some 19)) 14 5 (some 20)) 14 6 (some 21)) 14 8 (some 22)) 14 10 (some 23)) 14 11 (some 24)) 13 0 (some 14)) 25 0 (some 26)) 13 1 (some 25)) 13 2 (some 27)) 13 3 (some 28)) 0 3 (some 13)) 29 3 (some 30)) 29 4 (some 31)) 29 5 (some 32))) _ _
  refine ow_pF 155 d_Fs_init_43 rfl rfl rfl rfl (by decide) rfl rfl (fun _ => ⟨rfl, rfl⟩) rfl ?_
  replace hz := ow_zz_R (o := 0) (k := 4) (r := 29) hz (by decide) (by decide)
  show ow_AW ow_Y1 (ow_Zn Q 69 1720) M_Fs_init (d + 4) 69 1720 46 [(0, .ref 0)] [] (33, I, J, (ow_u (ow_u (ow_u (ow_u (ow_u (ow_u (ow_u (ow_u (ow_u (ow_u (ow_u (ow_u (ow_u (ow_u (ow_u (ow_u (ow_u (ow_u (ow_u (ow_u (ow_u (ow_u (ow_u (ow_u (ow_u (ow_u (ow_u (ow_u (ow_u (ow_u (ow_u (ow_u R 0 0 (some 1)) 3 3 (some 4)) 3 4 (some 5)) 3 5 (some 6)) 2 2 (some 3)) 2 4 (some 7)) 2 5 (some 8)) 2 6 (some 9)) 2 8 (some 10)) 2 10 (some 11)) 2 11 (some 12)) 0 2 (some 2)) 15 3 (some 16)) 15 4 (some 17)) 15 5 (some 18)) 14 2 (some 15)) 14 4 (some 19)) 14 5 (some 20)) 14 6 (some 21)) 14 8 (some 22)) 14 10 (some 23)) 14 11 (some 24)) 13 0 (some 14)) 25 0 (some 26)) 13 1 (some 25)) 13 2 (some 27)) 13 3 (some 28)) 0 3 (some 13)) 29 3 (some 30)) 29 4 (some 31)) 29 5 (some 32)) 0 4 (some 29))) _ _
  refine ow_aload_n 0 rfl d_Fs_init_46 ?_
  refine ow_new (ci := 4) d_Fs_init_47 wl_Fs_27 wi_4 wz_4 rfl (by decide) hz rfl rfl (by decide) (by decide) (by decide) ?_
  replace hz := ow_zz_n hz
  refine ow_dup rfl d_Fs_init_50 ?_
  refine ow_callN (M2 := M_Scene_init) (d2 := d + 3) (mc2 := 3) (ms2 := 18) (b := 33) (As := []) (rest := [.ref 33, .ref 0]) d_Fs_init_51 5 rfl b_Scene_init bi_Scene_init rfl rfl (Nat.le_of_ble_eq_true rfl) (by omega) (by decide) (by decide) rfl rfl (n_Scene_init_33 (d := d + 2) hz (fun hz1 => ⟨show 37 ≤ 34 + 3 by decide, ?_⟩))
  replace hz := hz1
  clear hz1
  show ow_AW ow_Y1 (ow_Zn Q 69 1720) M_Fs_init (d + 4) 69 1720 54 [(0, .ref 0)] [.ref 33, .ref 0] (37, I, J, (ow_u (ow_u (ow_u (ow_u (ow_u (ow_u (ow_u (ow_u (ow_u (ow_u (ow_u (ow_u (ow_u (ow_u (ow_u (ow_u (ow_u (ow_u (ow_u (ow_u (ow_u (ow_u (ow_u (ow_u (ow_u (ow_u (ow_u (ow_u (ow_u (ow_u (ow_u (ow_u (ow_u (ow_u (ow_u R 0 0 (some 1)) 3 3 (some 4)) 3 4 (some 5)) 3 5 (some 6)) 2 2 (some 3)) 2 4 (some 7)) 2 5 (some 8)) 2 6 (some 9)) 2 8 (some 10)) 2 10 (some 11)) 2 11 (some 12)) 0 2 (some 2)) 15 3 (some 16)) 15 4 (some 17)) 15 5 (some 18)) 14 2 (some 15)) 14 4 (some 19)) 14 5 (some 20)) 14 6 (some 21)) 14 8 (some 22)) 14 10 (some 23)) 14 11 (some 24)) 13 0 (some 14)) 25 0 (some 26)) 13 1 (some 25)) 13 2 (some 27)) 13 3 (some 28)) 0 3 (some 13)) 29 3 (some 30)) 29 4 (some 31)) 29 5 (some 32)) 0 4 (some 29)) 33 3 (some 34)) 33 4 (some 35)) 33 5 (some 36))) _ _
  refine ow_pF 156 d_Fs_init_54 rfl rfl rfl rfl (by decide) rfl rfl (fun _ => ⟨rfl, rfl⟩) rfl ?_
  replace hz := ow_zz_R (o := 0) (k := 5) (r := 33) hz (by decide) (by decide)
  show ow_AW ow_Y1 (ow_Zn Q 69 1720) M_Fs_init (d + 4) 69 1720 57 [(0, .ref 0)] [] (37, I, J, (ow_u (ow_u (ow_u (ow_u (ow_u (ow_u (ow_u (ow_u (ow_u (ow_u (ow_u (ow_u (ow_u (ow_u (ow_u (ow_u (ow_u (ow_u (ow_u (ow_u (ow_u (ow_u (ow_u (ow_u (ow_u (ow_u (ow_u (ow_u (ow_u (ow_u (ow_u (ow_u (ow_u (ow_u (ow_u (ow_u R 0 0 (some 1)) 3 3 (some 4)) 3 4 (some 5)) 3 5 (some 6)) 2 2 (some 3)) 2 4 (some 7)) 2 5 (some 8)) 2 6 (some 9)) 2 8 (some 10)) 2 10 (some 11)) 2 11 (some 12)) 0 2 (some 2)) 15 3 (some 16)) 15 4 (some 17)) 15 5 (some 18)) 14 2 (some 15)) 14 4 (some 19)) 14 5 (some 20)) 14 6 (some 21)) 14 8 (some 22)) 14 10 (some 23)) 14 11 (some 24)) 13 0 (some 14)) 25 0 (some 26)) 13 1 (some 25)) 13 2 (some 27)) 13 3 (some 28)) 0 3 (some 13)) 29 3 (some 30)) 29 4 (some 31)) 29 5 (some 32)) 0 4 (some 29)) 33 3 (some 34)) 33 4 (some 35)) 33 5 (some 36)) 0 5 (some 33))) _ _
  refine ow_aload_n 0 rfl d_Fs_init_57 ?_
  refine ow_new (ci := 0) d_Fs_init_58 wl_Fs_37 wi_0 wz_0 rfl (by decide) hz rfl rfl (by decide) (by decide) (by decide) ?_
  replace hz := ow_zz_n hz
  refine ow_dup rfl d_Fs_init_61 ?_
  refine ow_callN (M2 := M_Course_init) (d2 := d + 3) (mc2 := 1) (ms2 := 6) (b := 37) (As := []) (rest := [.ref 37, .ref 0]) d_Fs_init_62 6 rfl b_Course_init bi_Course_init rfl rfl (Nat.le_of_ble_eq_true rfl) (by omega) (by decide) (by decide) rfl rfl (n_Course_init_37 (d := d + 2) hz (fun hz1 => ⟨show 39 ≤ 38 + 1 by decide, ?_⟩))
  replace hz := hz1
  clear hz1
  show ow_AW ow_Y1 (ow_Zn Q 69 1720) M_Fs_init (d + 4) 69 1720 65 [(0, .ref 0)] [.ref 37, .ref 0] (39, I, J, (ow_u (ow_u (ow_u (ow_u (ow_u (ow_u (ow_u (ow_u (ow_u (ow_u (ow_u (ow_u (ow_u (ow_u (ow_u (ow_u (ow_u (ow_u (ow_u (ow_u (ow_u (ow_u (ow_u (ow_u (ow_u (ow_u (ow_u (ow_u (ow_u (ow_u (ow_u (ow_u (ow_u (ow_u (ow_u (ow_u (ow_u R 0 0 (some 1)) 3 3 (some 4)) 3 4 (some 5)) 3 5 (some 6)) 2 2 (some 3)) 2 4 (some 7)) 2 5 (some 8)) 2 6 (some 9)) 2 8 (some 10)) 2 10 (some 11)) 2 11 (some 12)) 0 2 (some 2)) 15 3 (some 16)) 15 4 (some 17)) 15 5 (some 18)) 14 2 (some 15)) 14 4 (some 19)) 14 5 (some 20)) 14 6 (some 21)) 14 8 (some 22)) 14 10 (some 23)) 14 11 (some 24)) 13 0 (some 14)) 25 0 (some 26)) 13 1 (some 25)) 13 2 (some 27)) 13 3 (some 28)) 0 3 (some 13)) 29 3 (some 30)) 29 4 (some 31)) 29 5 (some 32)) 0 4 (some 29)) 33 3 (some 34)) 33 4 (some 35)) 33 5 (some 36)) 0 5 (some 33)) 37 0 (some 38))) _ _
  refine ow_pF 157 d_Fs_init_65 rfl rfl rfl rfl (by decide) rfl rfl (fun _ => ⟨rfl, rfl⟩) rfl ?_
  replace hz := ow_zz_R (o := 0) (k := 6) (r := 37) hz (by decide) (by decide)
  show ow_AW ow_Y1 (ow_Zn Q 69 1720) M_Fs_init (d + 4) 69 1720 68 [(0, .ref 0)] [] (39, I, J, (ow_u (ow_u (ow_u (ow_u (ow_u (ow_u (ow_u (ow_u (ow_u (ow_u (ow_u (ow_u (ow_u (ow_u (ow_u (ow_u (ow_u (ow_u (ow_u (ow_u (ow_u (ow_u (ow_u (ow_u (ow_u (ow_u (ow_u (ow_u (ow_u (ow_u (ow_u (ow_u (ow_u (ow_u (ow_u (ow_u (ow_u (ow_u R 0 0 (some 1)) 3 3 (some 4)) 3 4 (some 5)) 3 5 (some 6)) 2 2 (some 3)) 2 4 (some 7)) 2 5 (some 8)) 2 6 (some 9)) 2 8 (some 10)) 2 10 (some 11)) 2 11 (some 12)) 0 2 (some 2)) 15 3 (some 16)) 15 4 (some 17)) 15 5 (some 18)) 14 2 (some 15)) 14 4 (some 19)) 14 5 (some 20)) 14 6 (some 21)) 14 8 (some 22)) 14 10 (some 23)) 14 11 (some 24)) 13 0 (some 14)) 25 0 (some 26)) 13 1 (some 25)) 13 2 (some 27)) 13 3 (some 28)) 0 3 (some 13)) 29 3 (some 30)) 29 4 (some 31)) 29 5 (some 32)) 0 4 (some 29)) 33 3 (some 34)) 33 4 (some 35)) 33 5 (some 36)) 0 5 (some 33)) 37 0 (some 38)) 0 6 (some 37))) _ _
  refine ow_aload_n 0 rfl d_Fs_init_68 ?_
  refine ow_new (ci := 5) d_Fs_init_69 wl_Fs_44 wi_5 wz_5 rfl (by decide) hz rfl rfl (by decide) (by decide) (by decide) ?_
  replace hz := ow_zz_n hz
  refine ow_dup rfl d_Fs_init_72 ?_
  refine ow_aload_n 0 rfl d_Fs_init_73 ?_
  refine ow_getR (a := 2) 153 d_Fs_init_74 rfl rfl (show 0 < 40 by decide) rfl ⟨rfl, rfl⟩ ?_
  refine ow_callI (M2 := M_Serving_init) (d2 := d + 3) (mc2 := 6) (ms2 := 35) (b := 39) (As := [.ref 2]) (rest := [.ref 39, .ref 0]) d_Fs_init_77 l_Fs_46 b_Serving_init bi_Serving_init rfl rfl (Nat.le_of_ble_eq_true rfl) (by omega) (by decide) (by decide) rfl rfl (n_Serving_init_39 (d := d + 1) hz (fun hz1 => ⟨show 46 ≤ 40 + 6 by decide, ?_⟩))
  replace hz := hz1
  clear hz1
  show ow_AW ow_Y1 (ow_Zn Q 69 1720) M_Fs_init (d + 4) 69 1720 80 [(0, .ref 0)] [.ref 39, .ref 0] (46, I, J, (ow_u (ow_u (ow_u (ow_u (ow_u (ow_u (ow_u (ow_u (ow_u (ow_u (ow_u (ow_u (ow_u (ow_u (ow_u (ow_u (ow_u (ow_u (ow_u (ow_u (ow_u (ow_u (ow_u (ow_u (ow_u (ow_u (ow_u (ow_u (ow_u (ow_u (ow_u (ow_u (ow_u (ow_u (ow_u (ow_u (ow_u (ow_u (ow_u (ow_u (ow_u (ow_u (ow_u (ow_u (ow_u R 0 0 (some 1)) 3 3 (some 4)) 3 4 (some 5)) 3 5 (some 6)) 2 2 (some 3)) 2 4 (some 7)) 2 5 (some 8)) 2 6 (some 9)) 2 8 (some 10)) 2 10 (some 11)) 2 11 (some 12)) 0 2 (some 2)) 15 3 (some 16)) 15 4 (some 17)) 15 5 (some 18)) 14 2 (some 15)) 14 4 (some 19)) 14 5 (some 20)) 14 6 (some 21)) 14 8 (some 22)) 14 10 (some 23)) 14 11 (some 24)) 13 0 (some 14)) 25 0 (some 26)) 13 1 (some 25)) 13 2 (some 27)) 13 3 (some 28)) 0 3 (some 13)) 29 3 (some 30)) 29 4 (some 31)) 29 5 (some 32)) 0 4 (some 29)) 33 3 (some 34)) 33 4 (some 35)) 33 5 (some 36)) 0 5 (some 33)) 37 0 (some 38)) 0 6 (some 37)) 40 0 (some 41)) 39 1 (some 40)) 42 3 (some 43)) 42 4 (some 44)) 42 5 (some 45)) 39 2 (some 42)) 39 0 (some 2))) _ _
  refine ow_pF 158 d_Fs_init_80 rfl rfl rfl rfl (by decide) rfl rfl (fun _ => ⟨rfl, rfl⟩) rfl ?_
  replace hz := ow_zz_R (o := 0) (k := 7) (r := 39) hz (by decide) (by decide)
  show ow_AW ow_Y1 (ow_Zn Q 69 1720) M_Fs_init (d + 4) 69 1720 83 [(0, .ref 0)] [] (46, I, J, (ow_u (ow_u (ow_u (ow_u (ow_u (ow_u (ow_u (ow_u (ow_u (ow_u (ow_u (ow_u (ow_u (ow_u (ow_u (ow_u (ow_u (ow_u (ow_u (ow_u (ow_u (ow_u (ow_u (ow_u (ow_u (ow_u (ow_u (ow_u (ow_u (ow_u (ow_u (ow_u (ow_u (ow_u (ow_u (ow_u (ow_u (ow_u (ow_u (ow_u (ow_u (ow_u (ow_u (ow_u (ow_u (ow_u R 0 0 (some 1)) 3 3 (some 4)) 3 4 (some 5)) 3 5 (some 6)) 2 2 (some 3)) 2 4 (some 7)) 2 5 (some 8)) 2 6 (some 9)) 2 8 (some 10)) 2 10 (some 11)) 2 11 (some 12)) 0 2 (some 2)) 15 3 (some 16)) 15 4 (some 17)) 15 5 (some 18)) 14 2 (some 15)) 14 4 (some 19)) 14 5 (some 20)) 14 6 (some 21)) 14 8 (some 22)) 14 10 (some 23)) 14 11 (some 24)) 13 0 (some 14)) 25 0 (some 26)) 13 1 (some 25)) 13 2 (some 27)) 13 3 (some 28)) 0 3 (some 13)) 29 3 (some 30)) 29 4 (some 31)) 29 5 (some 32)) 0 4 (some 29)) 33 3 (some 34)) 33 4 (some 35)) 33 5 (some 36)) 0 5 (some 33)) 37 0 (some 38)) 0 6 (some 37)) 40 0 (some 41)) 39 1 (some 40)) 42 3 (some 43)) 42 4 (some 44)) 42 5 (some 45)) 39 2 (some 42)) 39 0 (some 2)) 0 7 (some 39))) _ _
  refine ow_aload_n 0 rfl d_Fs_init_83 ?_
  refine ow_new (ci := 2) d_Fs_init_84 wl_Fs_53 wi_2 wz_2 rfl (by decide) hz rfl rfl (by decide) (by decide) (by decide) ?_
  replace hz := ow_zz_n hz
  refine ow_dup rfl d_Fs_init_87 ?_
  refine ow_aload_n 0 rfl d_Fs_init_88 ?_
  refine ow_getR (a := 2) 153 d_Fs_init_89 rfl rfl (show 0 < 47 by decide) rfl ⟨rfl, rfl⟩ ?_
  refine ow_aload_n 0 rfl d_Fs_init_92 ?_
  refine ow_getR (a := 39) 158 d_Fs_init_93 rfl rfl (show 0 < 47 by decide) rfl ⟨rfl, rfl⟩ ?_
  refine ow_callI (M2 := M_Planner_init) (d2 := d + 3) (mc2 := 7) (ms2 := 96) (b := 46) (As := [.ref 2, .ref 39]) (rest := [.ref 46, .ref 0]) d_Fs_init_96 l_Fs_55 b_Planner_init bi_Planner_init rfl rfl (Nat.le_of_ble_eq_true rfl) (by omega) (by decide) (by decide) rfl rfl (n_Planner_init_46 (d := d + 1) hz (fun hz1 => ⟨show 54 ≤ 47 + 7 by decide, ?_⟩))
  replace hz := hz1
  clear hz1
  show ow_AW ow_Y1 (ow_Zn Q 69 1720) M_Fs_init (d + 4) 69 1720 99 [(0, .ref 0)] [.ref 46, .ref 0] (54, I, J, (ow_u (ow_u (ow_u (ow_u (ow_u (ow_u (ow_u (ow_u (ow_u (ow_u (ow_u (ow_u (ow_u (ow_u (ow_u (ow_u (ow_u (ow_u (ow_u (ow_u (ow_u (ow_u (ow_u (ow_u (ow_u (ow_u (ow_u (ow_u (ow_u (ow_u (ow_u (ow_u (ow_u (ow_u (ow_u (ow_u (ow_u (ow_u (ow_u (ow_u (ow_u (ow_u (ow_u (ow_u (ow_u (ow_u (ow_u (ow_u (ow_u (ow_u (ow_u (ow_u (ow_u (ow_u (ow_u R 0 0 (some 1)) 3 3 (some 4)) 3 4 (some 5)) 3 5 (some 6)) 2 2 (some 3)) 2 4 (some 7)) 2 5 (some 8)) 2 6 (some 9)) 2 8 (some 10)) 2 10 (some 11)) 2 11 (some 12)) 0 2 (some 2)) 15 3 (some 16)) 15 4 (some 17)) 15 5 (some 18)) 14 2 (some 15)) 14 4 (some 19)) 14 5 (some 20)) 14 6 (some 21)) 14 8 (some 22)) 14 10 (some 23)) 14 11 (some 24)) 13 0 (some 14)) 25 0 (some 26)) 13 1 (some 25)) 13 2 (some 27)) 13 3 (some 28)) 0 3 (some 13)) 29 3 (some 30)) 29 4 (some 31)) 29 5 (some 32)) 0 4 (some 29)) 33 3 (some 34)) 33 4 (some 35)) 33 5 (some 36)) 0 5 (some 33)) 37 0 (some 38)) 0 6 (some 37)) 40 0 (some 41)) 39 1 (some 40)) 42 3 (some 43)) 42 4 (some 44)) 42 5 (some 45)) 39 2 (some 42)) 39 0 (some 2)) 0 7 (some 39)) 47 3 (some 48)) 47 4 (some 49)) 47 5 (some 50)) 46 2 (some 47)) 46 3 (some 51)) 46 4 (some 52)) 46 5 (some 53)) 46 0 (some 2)) 46 1 (some 39))) _ _
  refine ow_pF 159 d_Fs_init_99 rfl rfl rfl rfl (by decide) rfl rfl (fun _ => ⟨rfl, rfl⟩) rfl ?_
  replace hz := ow_zz_R (o := 0) (k := 8) (r := 46) hz (by decide) (by decide)
  show ow_AW ow_Y1 (ow_Zn Q 69 1720) M_Fs_init (d + 4) 69 1720 102 [(0, .ref 0)] [] (54, I, J, (ow_u (ow_u (ow_u (ow_u (ow_u (ow_u (ow_u (ow_u (ow_u (ow_u (ow_u (ow_u (ow_u (ow_u (ow_u (ow_u (ow_u (ow_u (ow_u (ow_u (ow_u (ow_u (ow_u (ow_u (ow_u (ow_u (ow_u (ow_u (ow_u (ow_u (ow_u (ow_u (ow_u (ow_u (ow_u (ow_u (ow_u (ow_u (ow_u (ow_u (ow_u (ow_u (ow_u (ow_u (ow_u (ow_u (ow_u (ow_u (ow_u (ow_u (ow_u (ow_u (ow_u (ow_u (ow_u (ow_u R 0 0 (some 1)) 3 3 (some 4)) 3 4 (some 5)) 3 5 (some 6)) 2 2 (some 3)) 2 4 (some 7)) 2 5 (some 8)) 2 6 (some 9)) 2 8 (some 10)) 2 10 (some 11)) 2 11 (some 12)) 0 2 (some 2)) 15 3 (some 16)) 15 4 (some 17)) 15 5 (some 18)) 14 2 (some 15)) 14 4 (some 19)) 14 5 (some 20)) 14 6 (some 21)) 14 8 (some 22)) 14 10 (some 23)) 14 11 (some 24)) 13 0 (some 14)) 25 0 (some 26)) 13 1 (some 25)) 13 2 (some 27)) 13 3 (some 28)) 0 3 (some 13)) 29 3 (some 30)) 29 4 (some 31)) 29 5 (some 32)) 0 4 (some 29)) 33 3 (some 34)) 33 4 (some 35)) 33 5 (some 36)) 0 5 (some 33)) 37 0 (some 38)) 0 6 (some 37)) 40 0 (some 41)) 39 1 (some 40)) 42 3 (some 43)) 42 4 (some 44)) 42 5 (some 45)) 39 2 (some 42)) 39 0 (some 2)) 0 7 (some 39)) 47 3 (some 48)) 47 4 (some 49)) 47 5 (some 50)) 46 2 (some 47)) 46 3 (some 51)) 46 4 (some 52)) 46 5 (some 53)) 46 0 (some 2)) 46 1 (some 39)) 0 8 (some 46))) _ _
  refine ow_aload_n 0 rfl d_Fs_init_102 ?_
  refine ow_new (ci := 1) d_Fs_init_103 wl_Fs_62 wi_1 wz_1 rfl (by decide) hz rfl rfl (by decide) (by decide) (by decide) ?_
  replace hz := ow_zz_n hz
  refine ow_dup rfl d_Fs_init_106 ?_
  refine ow_aload_n 0 rfl d_Fs_init_107 ?_
  refine ow_getR (a := 2) 153 d_Fs_init_108 rfl rfl (show 0 < 55 by decide) rfl ⟨rfl, rfl⟩ ?_
  refine ow_callI (M2 := M_Fits_init) (d2 := d + 3) (mc2 := 7) (ms2 := 160) (b := 54) (As := [.ref 2]) (rest := [.ref 54, .ref 0]) d_Fs_init_111 l_Fs_64 b_Fits_init bi_Fits_init rfl rfl (Nat.le_of_ble_eq_true rfl) (by omega) (by decide) (by decide) rfl rfl (n_Fits_init_54 (d := d + 1) hz (fun hz1 => ⟨show 62 ≤ 55 + 7 by decide, ?_⟩))
  replace hz := hz1
  clear hz1
  show ow_AW ow_Y1 (ow_Zn Q 69 1720) M_Fs_init (d + 4) 69 1720 114 [(0, .ref 0)] [.ref 54, .ref 0] (62, I, J, (ow_u (ow_u (ow_u (ow_u (ow_u (ow_u (ow_u (ow_u (ow_u (ow_u (ow_u (ow_u (ow_u (ow_u (ow_u (ow_u (ow_u (ow_u (ow_u (ow_u (ow_u (ow_u (ow_u (ow_u (ow_u (ow_u (ow_u (ow_u (ow_u (ow_u (ow_u (ow_u (ow_u (ow_u (ow_u (ow_u (ow_u (ow_u (ow_u (ow_u (ow_u (ow_u (ow_u (ow_u (ow_u (ow_u (ow_u (ow_u (ow_u (ow_u (ow_u (ow_u (ow_u (ow_u (ow_u (ow_u (ow_u (ow_u (ow_u (ow_u (ow_u (ow_u (ow_u (ow_u R 0 0 (some 1)) 3 3 (some 4)) 3 4 (some 5)) 3 5 (some 6)) 2 2 (some 3)) 2 4 (some 7)) 2 5 (some 8)) 2 6 (some 9)) 2 8 (some 10)) 2 10 (some 11)) 2 11 (some 12)) 0 2 (some 2)) 15 3 (some 16)) 15 4 (some 17)) 15 5 (some 18)) 14 2 (some 15)) 14 4 (some 19)) 14 5 (some 20)) 14 6 (some 21)) 14 8 (some 22)) 14 10 (some 23)) 14 11 (some 24)) 13 0 (some 14)) 25 0 (some 26)) 13 1 (some 25)) 13 2 (some 27)) 13 3 (some 28)) 0 3 (some 13)) 29 3 (some 30)) 29 4 (some 31)) 29 5 (some 32)) 0 4 (some 29)) 33 3 (some 34)) 33 4 (some 35)) 33 5 (some 36)) 0 5 (some 33)) 37 0 (some 38)) 0 6 (some 37)) 40 0 (some 41)) 39 1 (some 40)) 42 3 (some 43)) 42 4 (some 44)) 42 5 (some 45)) 39 2 (some 42)) 39 0 (some 2)) 0 7 (some 39)) 47 3 (some 48)) 47 4 (some 49)) 47 5 (some 50)) 46 2 (some 47)) 46 3 (some 51)) 46 4 (some 52)) 46 5 (some 53)) 46 0 (some 2)) 46 1 (some 39)) 0 8 (some 46)) 55 0 (some 56)) 54 1 (some 55)) 57 3 (some 58)) 57 4 (some 59)) 57 5 (some 60)) 54 2 (some 57)) 54 3 (some 61)) 54 0 (some 2))) _ _
  refine ow_pF 160 d_Fs_init_114 rfl rfl rfl rfl (by decide) rfl rfl (fun _ => ⟨rfl, rfl⟩) rfl ?_
  replace hz := ow_zz_R (o := 0) (k := 9) (r := 54) hz (by decide) (by decide)
  show ow_AW ow_Y1 (ow_Zn Q 69 1720) M_Fs_init (d + 4) 69 1720 117 [(0, .ref 0)] [] (62, I, J, (ow_u (ow_u (ow_u (ow_u (ow_u (ow_u (ow_u (ow_u (ow_u (ow_u (ow_u (ow_u (ow_u (ow_u (ow_u (ow_u (ow_u (ow_u (ow_u (ow_u (ow_u (ow_u (ow_u (ow_u (ow_u (ow_u (ow_u (ow_u (ow_u (ow_u (ow_u (ow_u (ow_u (ow_u (ow_u (ow_u (ow_u (ow_u (ow_u (ow_u (ow_u (ow_u (ow_u (ow_u (ow_u (ow_u (ow_u (ow_u (ow_u (ow_u (ow_u (ow_u (ow_u (ow_u (ow_u (ow_u (ow_u (ow_u (ow_u (ow_u (ow_u (ow_u (ow_u (ow_u (ow_u R 0 0 (some 1)) 3 3 (some 4)) 3 4 (some 5)) 3 5 (some 6)) 2 2 (some 3)) 2 4 (some 7)) 2 5 (some 8)) 2 6 (some 9)) 2 8 (some 10)) 2 10 (some 11)) 2 11 (some 12)) 0 2 (some 2)) 15 3 (some 16)) 15 4 (some 17)) 15 5 (some 18)) 14 2 (some 15)) 14 4 (some 19)) 14 5 (some 20)) 14 6 (some 21)) 14 8 (some 22)) 14 10 (some 23)) 14 11 (some 24)) 13 0 (some 14)) 25 0 (some 26)) 13 1 (some 25)) 13 2 (some 27)) 13 3 (some 28)) 0 3 (some 13)) 29 3 (some 30)) 29 4 (some 31)) 29 5 (some 32)) 0 4 (some 29)) 33 3 (some 34)) 33 4 (some 35)) 33 5 (some 36)) 0 5 (some 33)) 37 0 (some 38)) 0 6 (some 37)) 40 0 (some 41)) 39 1 (some 40)) 42 3 (some 43)) 42 4 (some 44)) 42 5 (some 45)) 39 2 (some 42)) 39 0 (some 2)) 0 7 (some 39)) 47 3 (some 48)) 47 4 (some 49)) 47 5 (some 50)) 46 2 (some 47)) 46 3 (some 51)) 46 4 (some 52)) 46 5 (some 53)) 46 0 (some 2)) 46 1 (some 39)) 0 8 (some 46)) 55 0 (some 56)) 54 1 (some 55)) 57 3 (some 58)) 57 4 (some 59)) 57 5 (some 60)) 54 2 (some 57)) 54 3 (some 61)) 54 0 (some 2)) 0 9 (some 54))) _ _
  refine ow_aload_n 0 rfl d_Fs_init_117 ?_
  refine ow_new (ci := 9) d_Fs_init_118 wl_Fs_69 wi_9 wz_9 rfl (by decide) hz rfl rfl (by decide) (by decide) (by decide) ?_
  replace hz := ow_zz_n hz
  refine ow_dup rfl d_Fs_init_121 ?_
  refine ow_aload_n 0 rfl d_Fs_init_122 ?_
  refine ow_getR (a := 2) 153 d_Fs_init_123 rfl rfl (show 0 < 63 by decide) rfl ⟨rfl, rfl⟩ ?_
  refine ow_callI (M2 := M_Votes_init) (d2 := d + 3) (mc2 := 0) (ms2 := 0) (b := 62) (As := [.ref 2]) (rest := [.ref 62, .ref 0]) d_Fs_init_126 l_Fs_71 b_Votes_init bi_Votes_init rfl rfl (Nat.le_of_ble_eq_true rfl) (by omega) (by decide) (by decide) rfl rfl (n_Votes_init_62 (d := d + 2) hz (fun hz1 => ⟨show 63 ≤ 63 + 0 by decide, ?_⟩))
  replace hz := hz1
  clear hz1
  show ow_AW ow_Y1 (ow_Zn Q 69 1720) M_Fs_init (d + 4) 69 1720 129 [(0, .ref 0)] [.ref 62, .ref 0] (63, I, J, (ow_u (ow_u (ow_u (ow_u (ow_u (ow_u (ow_u (ow_u (ow_u (ow_u (ow_u (ow_u (ow_u (ow_u (ow_u (ow_u (ow_u (ow_u (ow_u (ow_u (ow_u (ow_u (ow_u (ow_u (ow_u (ow_u (ow_u (ow_u (ow_u (ow_u (ow_u (ow_u (ow_u (ow_u (ow_u (ow_u (ow_u (ow_u (ow_u (ow_u (ow_u (ow_u (ow_u (ow_u (ow_u (ow_u (ow_u (ow_u (ow_u (ow_u (ow_u (ow_u (ow_u (ow_u (ow_u (ow_u (ow_u (ow_u (ow_u (ow_u (ow_u (ow_u (ow_u (ow_u (ow_u (ow_u R 0 0 (some 1)) 3 3 (some 4)) 3 4 (some 5)) 3 5 (some 6)) 2 2 (some 3)) 2 4 (some 7)) 2 5 (some 8)) 2 6 (some 9)) 2 8 (some 10)) 2 10 (some 11)) 2 11 (some 12)) 0 2 (some 2)) 15 3 (some 16)) 15 4 (some 17)) 15 5 (some 18)) 14 2 (some 15)) 14 4 (some 19)) 14 5 (some 20)) 14 6 (some 21)) 14 8 (some 22)) 14 10 (some 23)) 14 11 (some 24)) 13 0 (some 14)) 25 0 (some 26)) 13 1 (some 25)) 13 2 (some 27)) 13 3 (some 28)) 0 3 (some 13)) 29 3 (some 30)) 29 4 (some 31)) 29 5 (some 32)) 0 4 (some 29)) 33 3 (some 34)) 33 4 (some 35)) 33 5 (some 36)) 0 5 (some 33)) 37 0 (some 38)) 0 6 (some 37)) 40 0 (some 41)) 39 1 (some 40)) 42 3 (some 43)) 42 4 (some 44)) 42 5 (some 45)) 39 2 (some 42)) 39 0 (some 2)) 0 7 (some 39)) 47 3 (some 48)) 47 4 (some 49)) 47 5 (some 50)) 46 2 (some 47)) 46 3 (some 51)) 46 4 (some 52)) 46 5 (some 53)) 46 0 (some 2)) 46 1 (some 39)) 0 8 (some 46)) 55 0 (some 56)) 54 1 (some 55)) 57 3 (some 58)) 57 4 (some 59)) 57 5 (some 60)) 54 2 (some 57)) 54 3 (some 61)) 54 0 (some 2)) 0 9 (some 54)) 62 0 (some 2))) _ _
  refine ow_pF 161 d_Fs_init_129 rfl rfl rfl rfl (by decide) rfl rfl (fun _ => ⟨rfl, rfl⟩) rfl ?_
  replace hz := ow_zz_R (o := 0) (k := 10) (r := 62) hz (by decide) (by decide)
  show ow_AW ow_Y1 (ow_Zn Q 69 1720) M_Fs_init (d + 4) 69 1720 132 [(0, .ref 0)] [] (63, I, J, (ow_u (ow_u (ow_u (ow_u (ow_u (ow_u (ow_u (ow_u (ow_u (ow_u (ow_u (ow_u (ow_u (ow_u (ow_u (ow_u (ow_u (ow_u (ow_u (ow_u (ow_u (ow_u (ow_u (ow_u (ow_u (ow_u (ow_u (ow_u (ow_u (ow_u (ow_u (ow_u (ow_u (ow_u (ow_u (ow_u (ow_u (ow_u (ow_u (ow_u (ow_u (ow_u (ow_u (ow_u (ow_u (ow_u (ow_u (ow_u (ow_u (ow_u (ow_u (ow_u (ow_u (ow_u (ow_u (ow_u (ow_u (ow_u (ow_u (ow_u (ow_u (ow_u (ow_u (ow_u (ow_u (ow_u (ow_u R 0 0 (some 1)) 3 3 (some 4)) 3 4 (some 5)) 3 5 (some 6)) 2 2 (some 3)) 2 4 (some 7)) 2 5 (some 8)) 2 6 (some 9)) 2 8 (some 10)) 2 10 (some 11)) 2 11 (some 12)) 0 2 (some 2)) 15 3 (some 16)) 15 4 (some 17)) 15 5 (some 18)) 14 2 (some 15)) 14 4 (some 19)) 14 5 (some 20)) 14 6 (some 21)) 14 8 (some 22)) 14 10 (some 23)) 14 11 (some 24)) 13 0 (some 14)) 25 0 (some 26)) 13 1 (some 25)) 13 2 (some 27)) 13 3 (some 28)) 0 3 (some 13)) 29 3 (some 30)) 29 4 (some 31)) 29 5 (some 32)) 0 4 (some 29)) 33 3 (some 34)) 33 4 (some 35)) 33 5 (some 36)) 0 5 (some 33)) 37 0 (some 38)) 0 6 (some 37)) 40 0 (some 41)) 39 1 (some 40)) 42 3 (some 43)) 42 4 (some 44)) 42 5 (some 45)) 39 2 (some 42)) 39 0 (some 2)) 0 7 (some 39)) 47 3 (some 48)) 47 4 (some 49)) 47 5 (some 50)) 46 2 (some 47)) 46 3 (some 51)) 46 4 (some 52)) 46 5 (some 53)) 46 0 (some 2)) 46 1 (some 39)) 0 8 (some 46)) 55 0 (some 56)) 54 1 (some 55)) 57 3 (some 58)) 57 4 (some 59)) 57 5 (some 60)) 54 2 (some 57)) 54 3 (some 61)) 54 0 (some 2)) 0 9 (some 54)) 62 0 (some 2)) 0 10 (some 62))) _ _
  refine ow_aload_n 0 rfl d_Fs_init_132 ?_
  refine ow_new (ci := 10) d_Fs_init_133 wl_Fs_76 wi_10 wz_10 rfl (by decide) hz rfl rfl (by decide) (by decide) (by decide) ?_
  replace hz := ow_zz_n hz
  refine ow_dup rfl d_Fs_init_136 ?_
  refine ow_aload_n 0 rfl d_Fs_init_137 ?_
  refine ow_getR (a := 2) 153 d_Fs_init_138 rfl rfl (show 0 < 64 by decide) rfl ⟨rfl, rfl⟩ ?_
  refine ow_callI (M2 := M_Winds_init) (d2 := d + 3) (mc2 := 2) (ms2 := 11) (b := 63) (As := [.ref 2]) (rest := [.ref 63, .ref 0]) d_Fs_init_141 l_Fs_78 b_Winds_init bi_Winds_init rfl rfl (Nat.le_of_ble_eq_true rfl) (by omega) (by decide) (by decide) rfl rfl (n_Winds_init_63 (d := d + 1) hz (fun hz1 => ⟨show 66 ≤ 64 + 2 by decide, ?_⟩))
  replace hz := hz1
  clear hz1
  show ow_AW ow_Y1 (ow_Zn Q 69 1720) M_Fs_init (d + 4) 69 1720 144 [(0, .ref 0)] [.ref 63, .ref 0] (66, I, J, (ow_u (ow_u (ow_u (ow_u (ow_u (ow_u (ow_u (ow_u (ow_u (ow_u (ow_u (ow_u (ow_u (ow_u (ow_u (ow_u (ow_u (ow_u (ow_u (ow_u (ow_u (ow_u (ow_u (ow_u (ow_u (ow_u (ow_u (ow_u (ow_u (ow_u (ow_u (ow_u (ow_u (ow_u (ow_u (ow_u (ow_u (ow_u (ow_u (ow_u (ow_u (ow_u (ow_u (ow_u (ow_u (ow_u (ow_u (ow_u (ow_u (ow_u (ow_u (ow_u (ow_u (ow_u (ow_u (ow_u (ow_u (ow_u (ow_u (ow_u (ow_u (ow_u (ow_u (ow_u (ow_u (ow_u (ow_u (ow_u (ow_u (ow_u R 0 0 (some 1)) 3 3 (some 4)) 3 4 (some 5)) 3 5 (some 6)) 2 2 (some 3)) 2 4 (some 7)) 2 5 (some 8)) 2 6 (some 9)) 2 8 (some 10)) 2 10 (some 11)) 2 11 (some 12)) 0 2 (some 2)) 15 3 (some 16)) 15 4 (some 17)) 15 5 (some 18)) 14 2 (some 15)) 14 4 (some 19)) 14 5 (some 20)) 14 6 (some 21)) 14 8 (some 22)) 14 10 (some 23)) 14 11 (some 24)) 13 0 (some 14)) 25 0 (some 26)) 13 1 (some 25)) 13 2 (some 27)) 13 3 (some 28)) 0 3 (some 13)) 29 3 (some 30)) 29 4 (some 31)) 29 5 (some 32)) 0 4 (some 29)) 33 3 (some 34)) 33 4 (some 35)) 33 5 (some 36)) 0 5 (some 33)) 37 0 (some 38)) 0 6 (some 37)) 40 0 (some 41)) 39 1 (some 40)) 42 3 (some 43)) 42 4 (some 44)) 42 5 (some 45)) 39 2 (some 42)) 39 0 (some 2)) 0 7 (some 39)) 47 3 (some 48)) 47 4 (some 49)) 47 5 (some 50)) 46 2 (some 47)) 46 3 (some 51)) 46 4 (some 52)) 46 5 (some 53)) 46 0 (some 2)) 46 1 (some 39)) 0 8 (some 46)) 55 0 (some 56)) 54 1 (some 55)) 57 3 (some 58)) 57 4 (some 59)) 57 5 (some 60)) 54 2 (some 57)) 54 3 (some 61)) 54 0 (some 2)) 0 9 (some 54)) 62 0 (some 2)) 0 10 (some 62)) 64 0 (some 65)) 63 1 (some 64)) 63 0 (some 2))) _ _
  refine ow_pF 162 d_Fs_init_144 rfl rfl rfl rfl (by decide) rfl rfl (fun _ => ⟨rfl, rfl⟩) rfl ?_
  replace hz := ow_zz_R (o := 0) (k := 11) (r := 63) hz (by decide) (by decide)
  show ow_AW ow_Y1 (ow_Zn Q 69 1720) M_Fs_init (d + 4) 69 1720 147 [(0, .ref 0)] [] (66, I, J, (ow_u (ow_u (ow_u (ow_u (ow_u (ow_u (ow_u (ow_u (ow_u (ow_u (ow_u (ow_u (ow_u (ow_u (ow_u (ow_u (ow_u (ow_u (ow_u (ow_u (ow_u (ow_u (ow_u (ow_u (ow_u (ow_u (ow_u (ow_u (ow_u (ow_u (ow_u (ow_u (ow_u (ow_u (ow_u (ow_u (ow_u (ow_u (ow_u (ow_u (ow_u (ow_u (ow_u (ow_u (ow_u (ow_u (ow_u (ow_u (ow_u (ow_u (ow_u (ow_u (ow_u (ow_u (ow_u (ow_u (ow_u (ow_u (ow_u (ow_u (ow_u (ow_u (ow_u (ow_u (ow_u (ow_u (ow_u (ow_u (ow_u (ow_u (ow_u R 0 0 (some 1)) 3 3 (some 4)) 3 4 (some 5)) 3 5 (some 6)) 2 2 (some 3)) 2 4 (some 7)) 2 5 (some 8)) 2 6 (some 9)) 2 8 (some 10)) 2 10 (some 11)) 2 11 (some 12)) 0 2 (some 2)) 15 3 (some 16)) 15 4 (some 17)) 15 5 (some 18)) 14 2 (some 15)) 14 4 (some 19)) 14 5 (some 20)) 14 6 (some 21)) 14 8 (some 22)) 14 10 (some 23)) 14 11 (some 24)) 13 0 (some 14)) 25 0 (some 26)) 13 1 (some 25)) 13 2 (some 27)) 13 3 (some 28)) 0 3 (some 13)) 29 3 (some 30)) 29 4 (some 31)) 29 5 (some 32)) 0 4 (some 29)) 33 3 (some 34)) 33 4 (some 35)) 33 5 (some 36)) 0 5 (some 33)) 37 0 (some 38)) 0 6 (some 37)) 40 0 (some 41)) 39 1 (some 40)) 42 3 (some 43)) 42 4 (some 44)) 42 5 (some 45)) 39 2 (some 42)) 39 0 (some 2)) 0 7 (some 39)) 47 3 (some 48)) 47 4 (some 49)) 47 5 (some 50)) 46 2 (some 47)) 46 3 (some 51)) 46 4 (some 52)) 46 5 (some 53)) 46 0 (some 2)) 46 1 (some 39)) 0 8 (some 46)) 55 0 (some 56)) 54 1 (some 55)) 57 3 (some 58)) 57 4 (some 59)) 57 5 (some 60)) 54 2 (some 57)) 54 3 (some 61)) 54 0 (some 2)) 0 9 (some 54)) 62 0 (some 2)) 0 10 (some 62)) 64 0 (some 65)) 63 1 (some 64)) 63 0 (some 2)) 0 11 (some 63))) _ _
  refine ow_aload_n 0 rfl d_Fs_init_147 ?_
  refine ow_new (ci := 6) d_Fs_init_148 wl_Fs_83 wi_6 wz_6 rfl (by decide) hz rfl rfl (by decide) (by decide) (by decide) ?_
  replace hz := ow_zz_n hz
  refine ow_dup rfl d_Fs_init_151 ?_
  refine ow_bipush (v := 16) (by decide) d_Fs_init_152 ?_
  refine ow_callI (M2 := M_Snaps_init) (d2 := d + 3) (mc2 := 1) (ms2 := 224) (b := 66) (As := [.int 16]) (rest := [.ref 66, .ref 0]) d_Fs_init_154 l_Fs_85 b_Snaps_init bi_Snaps_init rfl rfl (Nat.le_of_ble_eq_true rfl) (by omega) (by decide) (by decide) rfl rfl (n_Snaps_init_66 (d := d + 2) hz (fun hz1 => ⟨show 68 ≤ 67 + 1 by decide, ?_⟩))
  replace hz := hz1
  clear hz1
  show ow_AW ow_Y1 (ow_Zn Q 69 1720) M_Fs_init (d + 4) 69 1720 157 [(0, .ref 0)] [.ref 66, .ref 0] (68, (ow_u I 66 0 16), J, (ow_u (ow_u (ow_u (ow_u (ow_u (ow_u (ow_u (ow_u (ow_u (ow_u (ow_u (ow_u (ow_u (ow_u (ow_u (ow_u (ow_u (ow_u (ow_u (ow_u (ow_u (ow_u (ow_u (ow_u (ow_u (ow_u (ow_u (ow_u (ow_u (ow_u (ow_u (ow_u (ow_u (ow_u (ow_u (ow_u (ow_u (ow_u (ow_u (ow_u (ow_u (ow_u (ow_u (ow_u (ow_u (ow_u (ow_u (ow_u (ow_u (ow_u (ow_u (ow_u (ow_u (ow_u (ow_u (ow_u (ow_u (ow_u (ow_u (ow_u (ow_u (ow_u (ow_u (ow_u (ow_u (ow_u (ow_u (ow_u (ow_u (ow_u (ow_u (ow_u R 0 0 (some 1)) 3 3 (some 4)) 3 4 (some 5)) 3 5 (some 6)) 2 2 (some 3)) 2 4 (some 7)) 2 5 (some 8)) 2 6 (some 9)) 2 8 (some 10)) 2 10 (some 11)) 2 11 (some 12)) 0 2 (some 2)) 15 3 (some 16)) 15 4 (some 17)) 15 5 (some 18)) 14 2 (some 15)) 14 4 (some 19)) 14 5 (some 20)) 14 6 (some 21)) 14 8 (some 22)) 14 10 (some 23)) 14 11 (some 24)) 13 0 (some 14)) 25 0 (some 26)) 13 1 (some 25)) 13 2 (some 27)) 13 3 (some 28)) 0 3 (some 13)) 29 3 (some 30)) 29 4 (some 31)) 29 5 (some 32)) 0 4 (some 29)) 33 3 (some 34)) 33 4 (some 35)) 33 5 (some 36)) 0 5 (some 33)) 37 0 (some 38)) 0 6 (some 37)) 40 0 (some 41)) 39 1 (some 40)) 42 3 (some 43)) 42 4 (some 44)) 42 5 (some 45)) 39 2 (some 42)) 39 0 (some 2)) 0 7 (some 39)) 47 3 (some 48)) 47 4 (some 49)) 47 5 (some 50)) 46 2 (some 47)) 46 3 (some 51)) 46 4 (some 52)) 46 5 (some 53)) 46 0 (some 2)) 46 1 (some 39)) 0 8 (some 46)) 55 0 (some 56)) 54 1 (some 55)) 57 3 (some 58)) 57 4 (some 59)) 57 5 (some 60)) 54 2 (some 57)) 54 3 (some 61)) 54 0 (some 2)) 0 9 (some 54)) 62 0 (some 2)) 0 10 (some 62)) 64 0 (some 65)) 63 1 (some 64)) 63 0 (some 2)) 0 11 (some 63)) 66 1 (some 67))) _ _
  refine ow_pF 163 d_Fs_init_157 rfl rfl rfl rfl (by decide) rfl rfl (fun _ => ⟨rfl, rfl⟩) rfl ?_
  replace hz := ow_zz_R (o := 0) (k := 12) (r := 66) hz (by decide) (by decide)
  show ow_AW ow_Y1 (ow_Zn Q 69 1720) M_Fs_init (d + 4) 69 1720 160 [(0, .ref 0)] [] (68, (ow_u I 66 0 16), J, (ow_u (ow_u (ow_u (ow_u (ow_u (ow_u (ow_u (ow_u (ow_u (ow_u (ow_u (ow_u (ow_u (ow_u (ow_u (ow_u (ow_u (ow_u (ow_u (ow_u (ow_u (ow_u (ow_u (ow_u (ow_u (ow_u (ow_u (ow_u (ow_u (ow_u (ow_u (ow_u (ow_u (ow_u (ow_u (ow_u (ow_u (ow_u (ow_u (ow_u (ow_u (ow_u (ow_u (ow_u (ow_u (ow_u (ow_u (ow_u (ow_u (ow_u (ow_u (ow_u (ow_u (ow_u (ow_u (ow_u (ow_u (ow_u (ow_u (ow_u (ow_u (ow_u (ow_u (ow_u (ow_u (ow_u (ow_u (ow_u (ow_u (ow_u (ow_u (ow_u (ow_u R 0 0 (some 1)) 3 3 (some 4)) 3 4 (some 5)) 3 5 (some 6)) 2 2 (some 3)) 2 4 (some 7)) 2 5 (some 8)) 2 6 (some 9)) 2 8 (some 10)) 2 10 (some 11)) 2 11 (some 12)) 0 2 (some 2)) 15 3 (some 16)) 15 4 (some 17)) 15 5 (some 18)) 14 2 (some 15)) 14 4 (some 19)) 14 5 (some 20)) 14 6 (some 21)) 14 8 (some 22)) 14 10 (some 23)) 14 11 (some 24)) 13 0 (some 14)) 25 0 (some 26)) 13 1 (some 25)) 13 2 (some 27)) 13 3 (some 28)) 0 3 (some 13)) 29 3 (some 30)) 29 4 (some 31)) 29 5 (some 32)) 0 4 (some 29)) 33 3 (some 34)) 33 4 (some 35)) 33 5 (some 36)) 0 5 (some 33)) 37 0 (some 38)) 0 6 (some 37)) 40 0 (some 41)) 39 1 (some 40)) 42 3 (some 43)) 42 4 (some 44)) 42 5 (some 45)) 39 2 (some 42)) 39 0 (some 2)) 0 7 (some 39)) 47 3 (some 48)) 47 4 (some 49)) 47 5 (some 50)) 46 2 (some 47)) 46 3 (some 51)) 46 4 (some 52)) 46 5 (some 53)) 46 0 (some 2)) 46 1 (some 39)) 0 8 (some 46)) 55 0 (some 56)) 54 1 (some 55)) 57 3 (some 58)) 57 4 (some 59)) 57 5 (some 60)) 54 2 (some 57)) 54 3 (some 61)) 54 0 (some 2)) 0 9 (some 54)) 62 0 (some 2)) 0 10 (some 62)) 64 0 (some 65)) 63 1 (some 64)) 63 0 (some 2)) 0 11 (some 63)) 66 1 (some 67)) 0 12 (some 66))) _ _
  refine ow_aload_n 0 rfl d_Fs_init_160 ?_
  refine ow_new (ci := 6) d_Fs_init_161 wl_Fs_83 wi_6 wz_6 rfl (by decide) hz rfl rfl (by decide) (by decide) (by decide) ?_
  replace hz := ow_zz_n hz
  refine ow_dup rfl d_Fs_init_164 ?_
  refine ow_iconst (v := 3) (by decide) d_Fs_init_165 ?_
  refine ow_callI (M2 := M_Snaps_init) (d2 := d + 3) (mc2 := 1) (ms2 := 42) (b := 68) (As := [.int 3]) (rest := [.ref 68, .ref 0]) d_Fs_init_166 l_Fs_85 b_Snaps_init bi_Snaps_init rfl rfl (Nat.le_of_ble_eq_true rfl) (by omega) (by decide) (by decide) rfl rfl (n_Snaps_init_68 (d := d + 2) hz (fun hz1 => ⟨show 70 ≤ 69 + 1 by decide, ?_⟩))
  replace hz := hz1
  clear hz1
  show ow_AW ow_Y1 (ow_Zn Q 69 1720) M_Fs_init (d + 4) 69 1720 169 [(0, .ref 0)] [.ref 68, .ref 0] (70, (ow_u (ow_u I 66 0 16) 68 0 3), J, (ow_u (ow_u (ow_u (ow_u (ow_u (ow_u (ow_u (ow_u (ow_u (ow_u (ow_u (ow_u (ow_u (ow_u (ow_u (ow_u (ow_u (ow_u (ow_u (ow_u (ow_u (ow_u (ow_u (ow_u (ow_u (ow_u (ow_u (ow_u (ow_u (ow_u (ow_u (ow_u (ow_u (ow_u (ow_u (ow_u (ow_u (ow_u (ow_u (ow_u (ow_u (ow_u (ow_u (ow_u (ow_u (ow_u (ow_u (ow_u (ow_u (ow_u (ow_u (ow_u (ow_u (ow_u (ow_u (ow_u (ow_u (ow_u (ow_u (ow_u (ow_u (ow_u (ow_u (ow_u (ow_u (ow_u (ow_u (ow_u (ow_u (ow_u (ow_u (ow_u (ow_u (ow_u R 0 0 (some 1)) 3 3 (some 4)) 3 4 (some 5)) 3 5 (some 6)) 2 2 (some 3)) 2 4 (some 7)) 2 5 (some 8)) 2 6 (some 9)) 2 8 (some 10)) 2 10 (some 11)) 2 11 (some 12)) 0 2 (some 2)) 15 3 (some 16)) 15 4 (some 17)) 15 5 (some 18)) 14 2 (some 15)) 14 4 (some 19)) 14 5 (some 20)) 14 6 (some 21)) 14 8 (some 22)) 14 10 (some 23)) 14 11 (some 24)) 13 0 (some 14)) 25 0 (some 26)) 13 1 (some 25)) 13 2 (some 27)) 13 3 (some 28)) 0 3 (some 13)) 29 3 (some 30)) 29 4 (some 31)) 29 5 (some 32)) 0 4 (some 29)) 33 3 (some 34)) 33 4 (some 35)) 33 5 (some 36)) 0 5 (some 33)) 37 0 (some 38)) 0 6 (some 37)) 40 0 (some 41)) 39 1 (some 40)) 42 3 (some 43)) 42 4 (some 44)) 42 5 (some 45)) 39 2 (some 42)) 39 0 (some 2)) 0 7 (some 39)) 47 3 (some 48)) 47 4 (some 49)) 47 5 (some 50)) 46 2 (some 47)) 46 3 (some 51)) 46 4 (some 52)) 46 5 (some 53)) 46 0 (some 2)) 46 1 (some 39)) 0 8 (some 46)) 55 0 (some 56)) 54 1 (some 55)) 57 3 (some 58)) 57 4 (some 59)) 57 5 (some 60)) 54 2 (some 57)) 54 3 (some 61)) 54 0 (some 2)) 0 9 (some 54)) 62 0 (some 2)) 0 10 (some 62)) 64 0 (some 65)) 63 1 (some 64)) 63 0 (some 2)) 0 11 (some 63)) 66 1 (some 67)) 0 12 (some 66)) 68 1 (some 69))) _ _
  refine ow_pF 164 d_Fs_init_169 rfl rfl rfl rfl (by decide) rfl rfl (fun _ => ⟨rfl, rfl⟩) rfl ?_
  replace hz := ow_zz_R (o := 0) (k := 13) (r := 68) hz (by decide) (by decide)
  show ow_AW ow_Y1 (ow_Zn Q 69 1720) M_Fs_init (d + 4) 69 1720 172 [(0, .ref 0)] [] (70, (ow_u (ow_u I 66 0 16) 68 0 3), J, (ow_u (ow_u (ow_u (ow_u (ow_u (ow_u (ow_u (ow_u (ow_u (ow_u (ow_u (ow_u (ow_u (ow_u (ow_u (ow_u (ow_u (ow_u (ow_u (ow_u (ow_u (ow_u (ow_u (ow_u (ow_u (ow_u (ow_u (ow_u (ow_u (ow_u (ow_u (ow_u (ow_u (ow_u (ow_u (ow_u (ow_u (ow_u (ow_u (ow_u (ow_u (ow_u (ow_u (ow_u (ow_u (ow_u (ow_u (ow_u (ow_u (ow_u (ow_u (ow_u (ow_u (ow_u (ow_u (ow_u (ow_u (ow_u (ow_u (ow_u (ow_u (ow_u (ow_u (ow_u (ow_u (ow_u (ow_u (ow_u (ow_u (ow_u (ow_u (ow_u (ow_u (ow_u (ow_u R 0 0 (some 1)) 3 3 (some 4)) 3 4 (some 5)) 3 5 (some 6)) 2 2 (some 3)) 2 4 (some 7)) 2 5 (some 8)) 2 6 (some 9)) 2 8 (some 10)) 2 10 (some 11)) 2 11 (some 12)) 0 2 (some 2)) 15 3 (some 16)) 15 4 (some 17)) 15 5 (some 18)) 14 2 (some 15)) 14 4 (some 19)) 14 5 (some 20)) 14 6 (some 21)) 14 8 (some 22)) 14 10 (some 23)) 14 11 (some 24)) 13 0 (some 14)) 25 0 (some 26)) 13 1 (some 25)) 13 2 (some 27)) 13 3 (some 28)) 0 3 (some 13)) 29 3 (some 30)) 29 4 (some 31)) 29 5 (some 32)) 0 4 (some 29)) 33 3 (some 34)) 33 4 (some 35)) 33 5 (some 36)) 0 5 (some 33)) 37 0 (some 38)) 0 6 (some 37)) 40 0 (some 41)) 39 1 (some 40)) 42 3 (some 43)) 42 4 (some 44)) 42 5 (some 45)) 39 2 (some 42)) 39 0 (some 2)) 0 7 (some 39)) 47 3 (some 48)) 47 4 (some 49)) 47 5 (some 50)) 46 2 (some 47)) 46 3 (some 51)) 46 4 (some 52)) 46 5 (some 53)) 46 0 (some 2)) 46 1 (some 39)) 0 8 (some 46)) 55 0 (some 56)) 54 1 (some 55)) 57 3 (some 58)) 57 4 (some 59)) 57 5 (some 60)) 54 2 (some 57)) 54 3 (some 61)) 54 0 (some 2)) 0 9 (some 54)) 62 0 (some 2)) 0 10 (some 62)) 64 0 (some 65)) 63 1 (some 64)) 63 0 (some 2)) 0 11 (some 63)) 66 1 (some 67)) 0 12 (some 66)) 68 1 (some 69)) 0 13 (some 68))) _ _
  exact ow_vretN d_Fs_init_172 rfl (by decide) (by decide) (T hz)
set_option maxRecDepth 8000 in
theorem n_Mo_init_70 {d : Nat} {I : Nat → Nat → Int32} {J : Nat → Nat → Int64} {R : Nat → Nat → Option Nat} {Q : ow_H → Prop} (hz : ow_zz 71 I J R) (T : ow_zz 84 (ow_u I 70 10 (-1)) J (ow_u (ow_u (ow_u (ow_u (ow_u (ow_u (ow_u (ow_u (ow_u (ow_u (ow_u (ow_u (ow_u R 70 1 (some 71)) 70 12 (some 72)) 70 15 (some 73)) 70 16 (some 74)) 70 17 (some 75)) 70 18 (some 76)) 70 19 (some 77)) 70 20 (some 78)) 70 21 (some 79)) 70 24 (some 80)) 70 25 (some 81)) 70 31 (some 82)) 70 34 (some 83)) → Q (84, (ow_u I 70 10 (-1)), J, (ow_u (ow_u (ow_u (ow_u (ow_u (ow_u (ow_u (ow_u (ow_u (ow_u (ow_u (ow_u (ow_u R 70 1 (some 71)) 70 12 (some 72)) 70 15 (some 73)) 70 16 (some 74)) 70 17 (some 75)) 70 18 (some 76)) 70 19 (some 77)) 70 20 (some 78)) 70 21 (some 79)) 70 24 (some 80)) 70 25 (some 81)) 70 31 (some 82)) 70 34 (some 83)))) : ow_AN M_Mo_init (d + 1) 13 1570 [.ref 70] (71, I, J, R) Q := by
  refine ow_enterN (by decide) (Nat.le_of_ble_eq_true rfl) ?_
  show ow_AW ow_Y1 (ow_Zn Q 13 1570) M_Mo_init (d + 1) 13 1570 0 [(0, .ref 70)] [] (71, I, J, R) 0 0
  refine ow_aload_n 0 rfl d_Mo_init_0 ?_
  refine ow_obj d_Mo_init_1 wo_Mo_1 wo_1 wo_2 (by omega) (Nat.le_of_ble_eq_true rfl) ?_
  refine ow_aload_n 0 rfl d_Mo_init_4 ?_
  refine ow_sipush (v := 900) (by decide) d_Mo_init_5 ?_
  refine ow_newaI (N := 900) d_Mo_init_8 wa_int rfl rfl rfl (by decide) hz rfl rfl (by decide) (by decide) (by decide) ?_
  replace hz := ow_zz_n hz
  refine ow_pF 170 d_Mo_init_10 rfl rfl rfl rfl (by decide) rfl rfl (fun _ => ⟨rfl, rfl⟩) rfl ?_
  replace hz := ow_zz_R (o := 70) (k := 1) (r := 71) hz (by decide) (by decide)
  show ow_AW ow_Y1 (ow_Zn Q 13 1570) M_Mo_init (d + 1) 13 1570 13 [(0, .ref 70)] [] (72, I, J, (ow_u R 70 1 (some 71))) _ _
  refine ow_aload_n 0 rfl d_Mo_init_13 ?_
  refine ow_iconst (v := (-1)) (by decide) d_Mo_init_14 ?_
  refine ow_putI 179 d_Mo_init_15 rfl rfl (show 70 < 72 by decide) rfl rfl rfl ?_
  replace hz := ow_zz_I (o := 70) (k := 10) (v := (-1)) hz (by decide)
  show ow_AW ow_Y1 (ow_Zn Q 13 1570) M_Mo_init (d + 1) 13 1570 18 [(0, .ref 70)] [] (72, (ow_u I 70 10 (-1)), J, (ow_u R 70 1 (some 71))) _ _
  refine ow_aload_n 0 rfl d_Mo_init_18 ?_
  refine ow_bipush (v := 8) (by decide) d_Mo_init_19 ?_
  refine ow_newaI (N := 8) d_Mo_init_21 wa_int rfl rfl rfl (by decide) hz rfl rfl (by decide) (by decide) (by decide) ?_
  replace hz := ow_zz_n hz
  refine ow_pF 181 d_Mo_init_23 rfl rfl rfl rfl (by decide) rfl rfl (fun _ => ⟨rfl, rfl⟩) rfl ?_
  replace hz := ow_zz_R (o := 70) (k := 12) (r := 72) hz (by decide) (by decide)
  show ow_AW ow_Y1 (ow_Zn Q 13 1570) M_Mo_init (d + 1) 13 1570 26 [(0, .ref 70)] [] (73, (ow_u I 70 10 (-1)), J, (ow_u (ow_u R 70 1 (some 71)) 70 12 (some 72))) _ _
  refine ow_aload_n 0 rfl d_Mo_init_26 ?_
  refine ow_sipush (v := 146) (by decide) d_Mo_init_27 ?_
  refine ow_newaI (N := 146) d_Mo_init_30 wa_int rfl rfl rfl (by decide) hz rfl rfl (by decide) (by decide) (by decide) ?_
  replace hz := ow_zz_n hz
  refine ow_pF 184 d_Mo_init_32 rfl rfl rfl rfl (by decide) rfl rfl (fun _ => ⟨rfl, rfl⟩) rfl ?_
  replace hz := ow_zz_R (o := 70) (k := 15) (r := 73) hz (by decide) (by decide)
  show ow_AW ow_Y1 (ow_Zn Q 13 1570) M_Mo_init (d + 1) 13 1570 35 [(0, .ref 70)] [] (74, (ow_u I 70 10 (-1)), J, (ow_u (ow_u (ow_u R 70 1 (some 71)) 70 12 (some 72)) 70 15 (some 73))) _ _
  refine ow_aload_n 0 rfl d_Mo_init_35 ?_
  refine ow_sipush (v := 146) (by decide) d_Mo_init_36 ?_
  refine ow_newaI (N := 146) d_Mo_init_39 wa_int rfl rfl rfl (by decide) hz rfl rfl (by decide) (by decide) (by decide) ?_
  replace hz := ow_zz_n hz
  refine ow_pF 185 d_Mo_init_41 rfl rfl rfl rfl (by decide) rfl rfl (fun _ => ⟨rfl, rfl⟩) rfl ?_
  replace hz := ow_zz_R (o := 70) (k := 16) (r := 74) hz (by decide) (by decide)
  show ow_AW ow_Y1 (ow_Zn Q 13 1570) M_Mo_init (d + 1) 13 1570 44 [(0, .ref 70)] [] (75, (ow_u I 70 10 (-1)), J, (ow_u (ow_u (ow_u (ow_u R 70 1 (some 71)) 70 12 (some 72)) 70 15 (some 73)) 70 16 (some 74))) _ _
  refine ow_aload_n 0 rfl d_Mo_init_44 ?_
  refine ow_bipush (v := 14) (by decide) d_Mo_init_45 ?_
  refine ow_newaI (N := 14) d_Mo_init_47 wa_int rfl rfl rfl (by decide) hz rfl rfl (by decide) (by decide) (by decide) ?_
  replace hz := ow_zz_n hz
  refine ow_pF 186 d_Mo_init_49 rfl rfl rfl rfl (by decide) rfl rfl (fun _ => ⟨rfl, rfl⟩) rfl ?_
  replace hz := ow_zz_R (o := 70) (k := 17) (r := 75) hz (by decide) (by decide)
  show ow_AW ow_Y1 (ow_Zn Q 13 1570) M_Mo_init (d + 1) 13 1570 52 [(0, .ref 70)] [] (76, (ow_u I 70 10 (-1)), J, (ow_u (ow_u (ow_u (ow_u (ow_u R 70 1 (some 71)) 70 12 (some 72)) 70 15 (some 73)) 70 16 (some 74)) 70 17 (some 75))) _ _
  refine ow_aload_n 0 rfl d_Mo_init_52 ?_
  refine ow_bipush (v := 14) (by decide) d_Mo_init_53 ?_
  refine ow_newaI (N := 14) d_Mo_init_55 wa_int rfl rfl rfl (by decide) hz rfl rfl (by decide) (by decide) (by decide) ?_
  replace hz := ow_zz_n hz
  refine ow_pF 187 d_Mo_init_57 rfl rfl rfl rfl (by decide) rfl rfl (fun _ => ⟨rfl, rfl⟩) rfl ?_
  replace hz := ow_zz_R (o := 70) (k := 18) (r := 76) hz (by decide) (by decide)
  show ow_AW ow_Y1 (ow_Zn Q 13 1570) M_Mo_init (d + 1) 13 1570 60 [(0, .ref 70)] [] (77, (ow_u I 70 10 (-1)), J, (ow_u (ow_u (ow_u (ow_u (ow_u (ow_u R 70 1 (some 71)) 70 12 (some 72)) 70 15 (some 73)) 70 16 (some 74)) 70 17 (some 75)) 70 18 (some 76))) _ _
  refine ow_aload_n 0 rfl d_Mo_init_60 ?_
  refine ow_bipush (v := 14) (by decide) d_Mo_init_61 ?_
  refine ow_newaI (N := 14) d_Mo_init_63 wa_int rfl rfl rfl (by decide) hz rfl rfl (by decide) (by decide) (by decide) ?_
  replace hz := ow_zz_n hz
  refine ow_pF 188 d_Mo_init_65 rfl rfl rfl rfl (by decide) rfl rfl (fun _ => ⟨rfl, rfl⟩) rfl ?_
  replace hz := ow_zz_R (o := 70) (k := 19) (r := 77) hz (by decide) (by decide)
  show ow_AW ow_Y1 (ow_Zn Q 13 1570) M_Mo_init (d + 1) 13 1570 68 [(0, .ref 70)] [] (78, (ow_u I 70 10 (-1)), J, (ow_u (ow_u (ow_u (ow_u (ow_u (ow_u (ow_u R 70 1 (some 71)) 70 12 (some 72)) 70 15 (some 73)) 70 16 (some 74)) 70 17 (some 75)) 70 18 (some 76)) 70 19 (some 77))) _ _
  refine ow_aload_n 0 rfl d_Mo_init_68 ?_
  refine ow_sipush (v := 224) (by decide) d_Mo_init_69 ?_
  refine ow_newaI (N := 224) d_Mo_init_72 wa_int rfl rfl rfl (by decide) hz rfl rfl (by decide) (by decide) (by decide) ?_
  replace hz := ow_zz_n hz
  refine ow_pF 189 d_Mo_init_74 rfl rfl rfl rfl (by decide) rfl rfl (fun _ => ⟨rfl, rfl⟩) rfl ?_
  replace hz := ow_zz_R (o := 70) (k := 20) (r := 78) hz (by decide) (by decide)
  show ow_AW ow_Y1 (ow_Zn Q 13 1570) M_Mo_init (d + 1) 13 1570 77 [(0, .ref 70)] [] (79, (ow_u I 70 10 (-1)), J, (ow_u (ow_u (ow_u (ow_u (ow_u (ow_u (ow_u (ow_u R 70 1 (some 71)) 70 12 (some 72)) 70 15 (some 73)) 70 16 (some 74)) 70 17 (some 75)) 70 18 (some 76)) 70 19 (some 77)) 70 20 (some 78))) _ _
  refine ow_aload_n 0 rfl d_Mo_init_77 ?_
  refine ow_bipush (v := 42) (by decide) d_Mo_init_78 ?_
  refine ow_newaI (N := 42) d_Mo_init_80 wa_int rfl rfl rfl (by decide) hz rfl rfl (by decide) (by decide) (by decide) ?_
  replace hz := ow_zz_n hz
  refine ow_pF 190 d_Mo_init_82 rfl rfl rfl rfl (by decide) rfl rfl (fun _ => ⟨rfl, rfl⟩) rfl ?_
  replace hz := ow_zz_R (o := 70) (k := 21) (r := 79) hz (by decide) (by decide)
  show ow_AW ow_Y1 (ow_Zn Q 13 1570) M_Mo_init (d + 1) 13 1570 85 [(0, .ref 70)] [] (80, (ow_u I 70 10 (-1)), J, (ow_u (ow_u (ow_u (ow_u (ow_u (ow_u (ow_u (ow_u (ow_u R 70 1 (some 71)) 70 12 (some 72)) 70 15 (some 73)) 70 16 (some 74)) 70 17 (some 75)) 70 18 (some 76)) 70 19 (some 77)) 70 20 (some 78)) 70 21 (some 79))) _ _
  refine ow_aload_n 0 rfl d_Mo_init_85 ?_
  refine ow_bipush (v := 6) (by decide) d_Mo_init_86 ?_
  refine ow_newaI (N := 6) d_Mo_init_88 wa_int rfl rfl rfl (by decide) hz rfl rfl (by decide) (by decide) (by decide) ?_
  replace hz := ow_zz_n hz
  refine ow_pF 193 d_Mo_init_90 rfl rfl rfl rfl (by decide) rfl rfl (fun _ => ⟨rfl, rfl⟩) rfl ?_
  replace hz := ow_zz_R (o := 70) (k := 24) (r := 80) hz (by decide) (by decide)
  show ow_AW ow_Y1 (ow_Zn Q 13 1570) M_Mo_init (d + 1) 13 1570 93 [(0, .ref 70)] [] (81, (ow_u I 70 10 (-1)), J, (ow_u (ow_u (ow_u (ow_u (ow_u (ow_u (ow_u (ow_u (ow_u (ow_u R 70 1 (some 71)) 70 12 (some 72)) 70 15 (some 73)) 70 16 (some 74)) 70 17 (some 75)) 70 18 (some 76)) 70 19 (some 77)) 70 20 (some 78)) 70 21 (some 79)) 70 24 (some 80))) _ _
  refine ow_aload_n 0 rfl d_Mo_init_93 ?_
  refine ow_bipush (v := 6) (by decide) d_Mo_init_94 ?_
  refine ow_newaI (N := 6) d_Mo_init_96 wa_int rfl rfl rfl (by decide) hz rfl rfl (by decide) (by decide) (by decide) ?_
  replace hz := ow_zz_n hz
  refine ow_pF 194 d_Mo_init_98 rfl rfl rfl rfl (by decide) rfl rfl (fun _ => ⟨rfl, rfl⟩) rfl ?_
  replace hz := ow_zz_R (o := 70) (k := 25) (r := 81) hz (by decide) (by decide)
  show ow_AW ow_Y1 (ow_Zn Q 13 1570) M_Mo_init (d + 1) 13 1570 101 [(0, .ref 70)] [] (82, (ow_u I 70 10 (-1)), J, (ow_u (ow_u (ow_u (ow_u (ow_u (ow_u (ow_u (ow_u (ow_u (ow_u (ow_u R 70 1 (some 71)) 70 12 (some 72)) 70 15 (some 73)) 70 16 (some 74)) 70 17 (some 75)) 70 18 (some 76)) 70 19 (some 77)) 70 20 (some 78)) 70 21 (some 79)) 70 24 (some 80)) 70 25 (some 81))) _ _
  refine ow_aload_n 0 rfl d_Mo_init_101 ?_
  refine ow_bipush (v := 14) (by decide) d_Mo_init_102 ?_
  refine ow_newaI (N := 14) d_Mo_init_104 wa_int rfl rfl rfl (by decide) hz rfl rfl (by decide) (by decide) (by decide) ?_
  replace hz := ow_zz_n hz
  refine ow_pF 200 d_Mo_init_106 rfl rfl rfl rfl (by decide) rfl rfl (fun _ => ⟨rfl, rfl⟩) rfl ?_
  replace hz := ow_zz_R (o := 70) (k := 31) (r := 82) hz (by decide) (by decide)
  show ow_AW ow_Y1 (ow_Zn Q 13 1570) M_Mo_init (d + 1) 13 1570 109 [(0, .ref 70)] [] (83, (ow_u I 70 10 (-1)), J, (ow_u (ow_u (ow_u (ow_u (ow_u (ow_u (ow_u (ow_u (ow_u (ow_u (ow_u (ow_u R 70 1 (some 71)) 70 12 (some 72)) 70 15 (some 73)) 70 16 (some 74)) 70 17 (some 75)) 70 18 (some 76)) 70 19 (some 77)) 70 20 (some 78)) 70 21 (some 79)) 70 24 (some 80)) 70 25 (some 81)) 70 31 (some 82))) _ _
  refine ow_aload_n 0 rfl d_Mo_init_109 ?_
  refine ow_bipush (v := 36) (by decide) d_Mo_init_110 ?_
  refine ow_newaI (N := 36) d_Mo_init_112 wa_int rfl rfl rfl (by decide) hz rfl rfl (by decide) (by decide) (by decide) ?_
  replace hz := ow_zz_n hz
  refine ow_pF 203 d_Mo_init_114 rfl rfl rfl rfl (by decide) rfl rfl (fun _ => ⟨rfl, rfl⟩) rfl ?_
  replace hz := ow_zz_R (o := 70) (k := 34) (r := 83) hz (by decide) (by decide)
  show ow_AW ow_Y1 (ow_Zn Q 13 1570) M_Mo_init (d + 1) 13 1570 117 [(0, .ref 70)] [] (84, (ow_u I 70 10 (-1)), J, (ow_u (ow_u (ow_u (ow_u (ow_u (ow_u (ow_u (ow_u (ow_u (ow_u (ow_u (ow_u (ow_u R 70 1 (some 71)) 70 12 (some 72)) 70 15 (some 73)) 70 16 (some 74)) 70 17 (some 75)) 70 18 (some 76)) 70 19 (some 77)) 70 20 (some 78)) 70 21 (some 79)) 70 24 (some 80)) 70 25 (some 81)) 70 31 (some 82)) 70 34 (some 83))) _ _
  exact ow_vretN d_Mo_init_117 rfl (by decide) (by decide) (T hz)
