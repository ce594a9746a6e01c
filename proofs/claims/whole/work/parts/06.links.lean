set_option maxRecDepth 20000 in
theorem ir_85 : e_ir 85 := by unfold e_ir; decide
set_option maxRecDepth 20000 in
theorem ir_86 : e_ir 86 := by unfold e_ir; decide
set_option maxRecDepth 20000 in
theorem ir_87 : e_ir 87 := by unfold e_ir; decide
set_option maxRecDepth 20000 in
theorem ir_88 : e_ir 88 := by unfold e_ir; decide
set_option maxRecDepth 20000 in
theorem ir_93 : e_ir 93 := by unfold e_ir; decide
set_option maxRecDepth 20000 in
theorem ir_94 : e_ir 94 := by unfold e_ir; decide
set_option maxRecDepth 20000 in
theorem ir_95 : e_ir 95 := by unfold e_ir; decide
set_option maxRecDepth 20000 in
theorem ir_96 : e_ir 96 := by unfold e_ir; decide
set_option maxRecDepth 20000 in
theorem iw_1000 : e_iw 1000 := ⟨0, by decide, rfl⟩
set_option maxRecDepth 20000 in
theorem iw_1001 : e_iw 1001 := ⟨1, by decide, rfl⟩
set_option maxRecDepth 20000 in
theorem iw_1002 : e_iw 1002 := ⟨2, by decide, rfl⟩
set_option maxRecDepth 20000 in
theorem iw_1003 : e_iw 1003 := ⟨3, by decide, rfl⟩
set_option maxRecDepth 20000 in
theorem iw_1004 : e_iw 1004 := ⟨4, by decide, rfl⟩
set_option maxRecDepth 20000 in
theorem iw_1005 : e_iw 1005 := ⟨5, by decide, rfl⟩
set_option maxRecDepth 20000 in
theorem iw_1006 : e_iw 1006 := ⟨6, by decide, rfl⟩
set_option maxRecDepth 20000 in
theorem fk6_48 : e_fk RX6 48 6 3 "I" := ⟨by decide, by decide, by decide +kernel, e_in 194 (by decide +kernel) (by decide +kernel)⟩
set_option maxRecDepth 20000 in
theorem at_1 : e_at gN 1 6 := by unfold e_at; decide
set_option maxRecDepth 20000 in
theorem fk6_21 : e_fk RX6 21 6 6 "[B" := ⟨by decide, by decide, by decide +kernel, e_in 199 (by decide +kernel) (by decide +kernel)⟩
set_option maxRecDepth 20000 in
theorem gr_1_6 : gR 1 6 = some 5 := rfl
set_option maxRecDepth 20000 in
theorem ar_5 : e_ar gN 5 10 500 := by unfold e_ar; decide
set_option maxRecDepth 20000 in
theorem ff6_3 : ((e_cl 6).2.1 3).2.2.2 = false := by decide +kernel
set_option maxRecDepth 20000 in
theorem fk7_12 : e_fk RX7 12 7 0 "LRunWorth$Tape;" := ⟨by decide, by decide, by decide +kernel, e_in 405 (by decide +kernel) (by decide +kernel)⟩
set_option maxRecDepth 20000 in
theorem at_0 : e_at gN 0 7 := by unfold e_at; decide
set_option maxRecDepth 20000 in
theorem gr_0_0 : gR 0 0 = some 1 := rfl
set_option maxRecDepth 20000 in
theorem fk7_58 : e_fk RX7 58 6 3 "I" := ⟨by decide, by decide, by decide +kernel, e_in 193 (by decide +kernel) (by decide +kernel)⟩
set_option maxRecDepth 20000 in
theorem me_X6_put : e_me yX6_put cX6_put 3 none 1 := ⟨e_in 446 (by decide +kernel) (by decide +kernel), by decide, ⟨by decide +kernel, by decide +kernel⟩, by decide +kernel, e_in 94 (by decide +kernel) (by decide +kernel)⟩
set_option maxRecDepth 20000 in
theorem mlX7_62 : Cond.methodLink RX7 62 yX6_put ∈ e_tbl := e_in 443 (by decide +kernel) (by decide +kernel)
set_option maxRecDepth 20000 in
theorem im_X6_put : Cond.instanceMethod yX6_put ∈ e_tbl := e_in 444 (by decide +kernel) (by decide +kernel)
set_option maxRecDepth 20000 in
theorem se_X6_put : Cond.selects yX6_put.cls yX6_put yX6_put ∈ e_tbl := e_in 445 (by decide +kernel) (by decide +kernel)
set_option maxRecDepth 20000 in
theorem me_X7_within : e_me yX7_within cX7_within 3 (some .boolean) 3 := ⟨e_in 453 (by decide +kernel) (by decide +kernel), by decide, ⟨by decide +kernel, by decide +kernel⟩, by decide +kernel, e_in 93 (by decide +kernel) (by decide +kernel)⟩
set_option maxRecDepth 20000 in
theorem sm_X7_within : Cond.static yX7_within ∈ e_tbl := e_in 452 (by decide +kernel) (by decide +kernel)
set_option maxRecDepth 20000 in
theorem fk0_15 : e_fk RX0 15 0 9 "[I" := ⟨by decide, by decide, by decide +kernel, e_in 269 (by decide +kernel) (by decide +kernel)⟩
set_option maxRecDepth 20000 in
theorem fk2_22 : e_fk RX2 22 2 2 "I" := ⟨by decide, by decide, by decide +kernel, e_in 333 (by decide +kernel) (by decide +kernel)⟩
set_option maxRecDepth 20000 in
theorem at_12 : e_at gN 12 2 := by unfold e_at; decide
set_option maxRecDepth 20000 in
theorem fk2_29 : e_fk RX2 29 2 3 "I" := ⟨by decide, by decide, by decide +kernel, e_in 334 (by decide +kernel) (by decide +kernel)⟩
set_option maxRecDepth 20000 in
theorem me_J6_bitCount_0f7a4 : e_me yJ6_bitCount_0f7a4 cJ6_bitCount_0f7a4 1 (some .int) 1 := ⟨e_in 586 (by decide +kernel) (by decide +kernel), by decide, ⟨by decide +kernel, by decide +kernel⟩, by decide +kernel, e_in 108 (by decide +kernel) (by decide +kernel)⟩
set_option maxRecDepth 20000 in
theorem sm_J6_bitCount_0f7a4 : Cond.static yJ6_bitCount_0f7a4 ∈ e_tbl := e_in 585 (by decide +kernel) (by decide +kernel)
set_option maxRecDepth 20000 in
theorem mlX2_57 : Cond.methodLink RX2 57 yJ6_bitCount_0f7a4 ∈ e_tbl := e_in 584 (by decide +kernel) (by decide +kernel)
set_option maxRecDepth 20000 in
theorem fk2_32 : e_fk RX2 32 2 4 "I" := ⟨by decide, by decide, by decide +kernel, e_in 335 (by decide +kernel) (by decide +kernel)⟩
set_option maxRecDepth 20000 in
theorem ff2_4 : ((e_cl 2).2.1 4).2.2.2 = false := by decide +kernel
set_option maxRecDepth 20000 in
theorem ff2_2 : ((e_cl 2).2.1 2).2.2.2 = false := by decide +kernel
set_option maxRecDepth 20000 in
theorem ff2_3 : ((e_cl 2).2.1 3).2.2.2 = false := by decide +kernel
set_option maxRecDepth 20000 in
theorem me_X2_putOut : e_me yX2_putOut cX2_putOut 2 none 1 := ⟨e_in 575 (by decide +kernel) (by decide +kernel), by decide, ⟨by decide +kernel, by decide +kernel⟩, by decide +kernel, e_in 102 (by decide +kernel) (by decide +kernel)⟩
set_option maxRecDepth 20000 in
theorem mlX2_47 : Cond.methodLink RX2 47 yX2_putOut ∈ e_tbl := e_in 572 (by decide +kernel) (by decide +kernel)
set_option maxRecDepth 20000 in
theorem im_X2_putOut : Cond.instanceMethod yX2_putOut ∈ e_tbl := e_in 574 (by decide +kernel) (by decide +kernel)
set_option maxRecDepth 20000 in
theorem se_X2_putOut : Cond.selects yX2_putOut.cls yX2_putOut yX2_putOut ∈ e_tbl := e_in 17 (by decide +kernel) (by decide +kernel)
set_option maxRecDepth 20000 in
theorem me_X2_walk : e_me yX2_walk cX2_walk 1 none 0 := ⟨e_in 579 (by decide +kernel) (by decide +kernel), by decide, ⟨by decide +kernel, by decide +kernel⟩, by decide +kernel, e_in 102 (by decide +kernel) (by decide +kernel)⟩
set_option maxRecDepth 20000 in
theorem mlX2_51 : Cond.methodLink RX2 51 yX2_walk ∈ e_tbl := e_in 576 (by decide +kernel) (by decide +kernel)
set_option maxRecDepth 20000 in
theorem im_X2_walk : Cond.instanceMethod yX2_walk ∈ e_tbl := e_in 578 (by decide +kernel) (by decide +kernel)
set_option maxRecDepth 20000 in
theorem se_X2_walk : Cond.selects yX2_walk.cls yX2_walk yX2_walk ∈ e_tbl := e_in 18 (by decide +kernel) (by decide +kernel)
set_option maxRecDepth 20000 in
theorem me_X2_comeOn : e_me yX2_comeOn cX2_comeOn 3 none 1 := ⟨e_in 583 (by decide +kernel) (by decide +kernel), by decide, ⟨by decide +kernel, by decide +kernel⟩, by decide +kernel, e_in 102 (by decide +kernel) (by decide +kernel)⟩
set_option maxRecDepth 20000 in
theorem mlX2_54 : Cond.methodLink RX2 54 yX2_comeOn ∈ e_tbl := e_in 580 (by decide +kernel) (by decide +kernel)
set_option maxRecDepth 20000 in
theorem im_X2_comeOn : Cond.instanceMethod yX2_comeOn ∈ e_tbl := e_in 582 (by decide +kernel) (by decide +kernel)
set_option maxRecDepth 20000 in
theorem se_X2_comeOn : Cond.selects yX2_comeOn.cls yX2_comeOn yX2_comeOn ∈ e_tbl := e_in 19 (by decide +kernel) (by decide +kernel)
set_option maxRecDepth 20000 in
theorem me_X7_basesOf : e_me yX7_basesOf cX7_basesOf 1 (some .int) 1 := ⟨e_in 560 (by decide +kernel) (by decide +kernel), by decide, ⟨by decide +kernel, by decide +kernel⟩, by decide +kernel, e_in 93 (by decide +kernel) (by decide +kernel)⟩
set_option maxRecDepth 20000 in
theorem sm_X7_basesOf : Cond.static yX7_basesOf ∈ e_tbl := e_in 559 (by decide +kernel) (by decide +kernel)
set_option maxRecDepth 20000 in
theorem me_X7_outsOf : e_me yX7_outsOf cX7_outsOf 1 (some .int) 1 := ⟨e_in 563 (by decide +kernel) (by decide +kernel), by decide, ⟨by decide +kernel, by decide +kernel⟩, by decide +kernel, e_in 93 (by decide +kernel) (by decide +kernel)⟩
set_option maxRecDepth 20000 in
theorem sm_X7_outsOf : Cond.static yX7_outsOf ∈ e_tbl := e_in 562 (by decide +kernel) (by decide +kernel)
set_option maxRecDepth 20000 in
theorem me_X2_canBe : e_me yX2_canBe cX2_canBe 2 (some .boolean) 1 := ⟨e_in 567 (by decide +kernel) (by decide +kernel), by decide, ⟨by decide +kernel, by decide +kernel⟩, by decide +kernel, e_in 102 (by decide +kernel) (by decide +kernel)⟩
set_option maxRecDepth 20000 in
theorem mlX2_35 : Cond.methodLink RX2 35 yX2_canBe ∈ e_tbl := e_in 564 (by decide +kernel) (by decide +kernel)
set_option maxRecDepth 20000 in
theorem im_X2_canBe : Cond.instanceMethod yX2_canBe ∈ e_tbl := e_in 566 (by decide +kernel) (by decide +kernel)
set_option maxRecDepth 20000 in
theorem se_X2_canBe : Cond.selects yX2_canBe.cls yX2_canBe yX2_canBe ∈ e_tbl := e_in 15 (by decide +kernel) (by decide +kernel)
set_option maxRecDepth 20000 in
theorem me_X2_move : e_me yX2_move cX2_move 5 none 4 := ⟨e_in 571 (by decide +kernel) (by decide +kernel), by decide, ⟨by decide +kernel, by decide +kernel⟩, by decide +kernel, e_in 102 (by decide +kernel) (by decide +kernel)⟩
set_option maxRecDepth 20000 in
theorem mlX2_39 : Cond.methodLink RX2 39 yX2_move ∈ e_tbl := e_in 568 (by decide +kernel) (by decide +kernel)
set_option maxRecDepth 20000 in
theorem im_X2_move : Cond.instanceMethod yX2_move ∈ e_tbl := e_in 570 (by decide +kernel) (by decide +kernel)
set_option maxRecDepth 20000 in
theorem se_X2_move : Cond.selects yX2_move.cls yX2_move yX2_move ∈ e_tbl := e_in 16 (by decide +kernel) (by decide +kernel)
set_option maxRecDepth 20000 in
theorem fk2_9 : e_fk RX2 9 2 0 "[I" := ⟨by decide, by decide, by decide +kernel, e_in 329 (by decide +kernel) (by decide +kernel)⟩
set_option maxRecDepth 20000 in
theorem gr_12_0 : gR 12 0 = some 13 := rfl
set_option maxRecDepth 20000 in
theorem me_X7_stateOf : e_me yX7_stateOf cX7_stateOf 2 (some .int) 2 := ⟨e_in 592 (by decide +kernel) (by decide +kernel), by decide, ⟨by decide +kernel, by decide +kernel⟩, by decide +kernel, e_in 93 (by decide +kernel) (by decide +kernel)⟩
set_option maxRecDepth 20000 in
theorem sm_X7_stateOf : Cond.static yX7_stateOf ∈ e_tbl := e_in 591 (by decide +kernel) (by decide +kernel)
set_option maxRecDepth 20000 in
theorem ar_13 : e_ar gN 13 9 216 := by unfold e_ar; decide
set_option maxRecDepth 20000 in
theorem fk2_15 : e_fk RX2 15 2 1 "[I" := ⟨by decide, by decide, by decide +kernel, e_in 331 (by decide +kernel) (by decide +kernel)⟩
set_option maxRecDepth 20000 in
theorem gr_12_1 : gR 12 1 = some 14 := rfl
set_option maxRecDepth 20000 in
theorem ar_14 : e_ar gN 14 9 216 := by unfold e_ar; decide
set_option maxRecDepth 20000 in
theorem fk7_40 : e_fk RX7 40 7 5 "LRunWorth$Means;" := ⟨by decide, by decide, by decide +kernel, e_in 410 (by decide +kernel) (by decide +kernel)⟩
set_option maxRecDepth 20000 in
theorem gr_0_5 : gR 0 5 = some 11 := rfl
set_option maxRecDepth 20000 in
theorem fk7_181 : e_fk RX7 181 1 0 "LRunWorth$Moves;" := ⟨by decide, by decide, by decide +kernel, e_in 349 (by decide +kernel) (by decide +kernel)⟩
set_option maxRecDepth 20000 in
theorem at_11 : e_at gN 11 1 := by unfold e_at; decide
set_option maxRecDepth 20000 in
theorem gr_11_0 : gR 11 0 = some 12 := rfl
set_option maxRecDepth 20000 in
theorem fk7_23 : e_fk RX7 23 7 2 "LRunWorth$Game;" := ⟨by decide, by decide, by decide +kernel, e_in 407 (by decide +kernel) (by decide +kernel)⟩
set_option maxRecDepth 20000 in
theorem gr_0_2 : gR 0 2 = some 23 := rfl
set_option maxRecDepth 20000 in
theorem me_X0_ruled : e_me yX0_ruled cX0_ruled 2 (some .int) 1 := ⟨e_in 552 (by decide +kernel) (by decide +kernel), by decide, ⟨by decide +kernel, by decide +kernel⟩, by decide +kernel, e_in 99 (by decide +kernel) (by decide +kernel)⟩
set_option maxRecDepth 20000 in
theorem mlX7_139 : Cond.methodLink RX7 139 yX0_ruled ∈ e_tbl := e_in 549 (by decide +kernel) (by decide +kernel)
set_option maxRecDepth 20000 in
theorem im_X0_ruled : Cond.instanceMethod yX0_ruled ∈ e_tbl := e_in 550 (by decide +kernel) (by decide +kernel)
set_option maxRecDepth 20000 in
theorem se_X0_ruled : Cond.selects yX0_ruled.cls yX0_ruled yX0_ruled ∈ e_tbl := e_in 551 (by decide +kernel) (by decide +kernel)
set_option maxRecDepth 20000 in
theorem at_23 : e_at gN 23 0 := by unfold e_at; decide
set_option maxRecDepth 20000 in
theorem me_X2_fit : e_me yX2_fit cX2_fit 7 none 3 := ⟨e_in 557 (by decide +kernel) (by decide +kernel), by decide, ⟨by decide +kernel, by decide +kernel⟩, by decide +kernel, e_in 102 (by decide +kernel) (by decide +kernel)⟩
set_option maxRecDepth 20000 in
theorem mlX7_362 : Cond.methodLink RX7 362 yX2_fit ∈ e_tbl := e_in 554 (by decide +kernel) (by decide +kernel)
set_option maxRecDepth 20000 in
theorem im_X2_fit : Cond.instanceMethod yX2_fit ∈ e_tbl := e_in 555 (by decide +kernel) (by decide +kernel)
set_option maxRecDepth 20000 in
theorem se_X2_fit : Cond.selects yX2_fit.cls yX2_fit yX2_fit ∈ e_tbl := e_in 556 (by decide +kernel) (by decide +kernel)
set_option maxRecDepth 20000 in
theorem fk7_107 : e_fk RX7 107 7 8 "I" := ⟨by decide, by decide, by decide +kernel, e_in 413 (by decide +kernel) (by decide +kernel)⟩
set_option maxRecDepth 20000 in
theorem ff7_8 : ((e_cl 7).2.1 8).2.2.2 = false := by decide +kernel
set_option maxRecDepth 20000 in
theorem fk0_42 : e_fk RX0 42 0 1 "I" := ⟨by decide, by decide, by decide +kernel, e_in 249 (by decide +kernel) (by decide +kernel)⟩
set_option maxRecDepth 20000 in
theorem ff0_1 : ((e_cl 0).2.1 1).2.2.2 = false := by decide +kernel
set_option maxRecDepth 20000 in
theorem fk0_45 : e_fk RX0 45 0 2 "I" := ⟨by decide, by decide, by decide +kernel, e_in 252 (by decide +kernel) (by decide +kernel)⟩
set_option maxRecDepth 20000 in
theorem ff0_2 : ((e_cl 0).2.1 2).2.2.2 = false := by decide +kernel
set_option maxRecDepth 20000 in
theorem fk0_48 : e_fk RX0 48 0 3 "I" := ⟨by decide, by decide, by decide +kernel, e_in 255 (by decide +kernel) (by decide +kernel)⟩
set_option maxRecDepth 20000 in
theorem ff0_3 : ((e_cl 0).2.1 3).2.2.2 = false := by decide +kernel
set_option maxRecDepth 20000 in
theorem fk0_18 : e_fk RX0 18 0 10 "[I" := ⟨by decide, by decide, by decide +kernel, e_in 270 (by decide +kernel) (by decide +kernel)⟩
set_option maxRecDepth 20000 in
theorem fk0_51 : e_fk RX0 51 0 4 "I" := ⟨by decide, by decide, by decide +kernel, e_in 257 (by decide +kernel) (by decide +kernel)⟩
set_option maxRecDepth 20000 in
theorem ff0_4 : ((e_cl 0).2.1 4).2.2.2 = false := by decide +kernel
set_option maxRecDepth 20000 in
theorem fk0_54 : e_fk RX0 54 0 5 "I" := ⟨by decide, by decide, by decide +kernel, e_in 261 (by decide +kernel) (by decide +kernel)⟩
set_option maxRecDepth 20000 in
theorem ff0_5 : ((e_cl 0).2.1 5).2.2.2 = false := by decide +kernel
set_option maxRecDepth 20000 in
theorem fk0_57 : e_fk RX0 57 0 6 "I" := ⟨by decide, by decide, by decide +kernel, e_in 265 (by decide +kernel) (by decide +kernel)⟩
set_option maxRecDepth 20000 in
theorem ff0_6 : ((e_cl 0).2.1 6).2.2.2 = false := by decide +kernel
set_option maxRecDepth 20000 in
theorem fk0_60 : e_fk RX0 60 0 7 "I" := ⟨by decide, by decide, by decide +kernel, e_in 267 (by decide +kernel) (by decide +kernel)⟩
set_option maxRecDepth 20000 in
theorem ff0_7 : ((e_cl 0).2.1 7).2.2.2 = false := by decide +kernel
set_option maxRecDepth 20000 in
theorem fk0_24 : e_fk RX0 24 6 4 "I" := ⟨by decide, by decide, by decide +kernel, e_in 195 (by decide +kernel) (by decide +kernel)⟩
set_option maxRecDepth 20000 in
theorem fk0_30 : e_fk RX0 30 0 0 "I" := ⟨by decide, by decide, by decide +kernel, e_in 245 (by decide +kernel) (by decide +kernel)⟩
set_option maxRecDepth 20000 in
theorem ff0_0 : ((e_cl 0).2.1 0).2.2.2 = false := by decide +kernel
set_option maxRecDepth 20000 in
theorem fk0_31 : e_fk RX0 31 6 1 "[I" := ⟨by decide, by decide, by decide +kernel, e_in 190 (by decide +kernel) (by decide +kernel)⟩
set_option maxRecDepth 20000 in
theorem gr_1_1 : gR 1 1 = some 3 := rfl
set_option maxRecDepth 20000 in
theorem fk0_9 : e_fk RX0 9 0 8 "[I" := ⟨by decide, by decide, by decide +kernel, e_in 268 (by decide +kernel) (by decide +kernel)⟩
set_option maxRecDepth 20000 in
theorem ar_3 : e_ar gN 3 9 54 := by unfold e_ar; decide
set_option maxRecDepth 20000 in
theorem mlX0_32 : Cond.methodLink RX0 32 arraycopyName ∈ e_tbl := e_in 536 (by decide +kernel) (by decide +kernel)
set_option maxRecDepth 20000 in
theorem na_copy : Cond.native arraycopyName ∈ e_tbl := e_in 531 (by decide +kernel) (by decide +kernel)
set_option maxRecDepth 20000 in
theorem st_copy : Cond.static arraycopyName ∈ e_tbl := e_in 530 (by decide +kernel) (by decide +kernel)
set_option maxRecDepth 20000 in
theorem in_Sys : Cond.initialized "java/lang/System" ∈ e_tbl := e_in 107 (by decide +kernel) (by decide +kernel)
set_option maxRecDepth 20000 in
theorem fk0_38 : e_fk RX0 38 6 2 "[I" := ⟨by decide, by decide, by decide +kernel, e_in 192 (by decide +kernel) (by decide +kernel)⟩
set_option maxRecDepth 20000 in
theorem gr_1_2 : gR 1 2 = some 4 := rfl
set_option maxRecDepth 20000 in
theorem ar_4 : e_ar gN 4 9 5 := by unfold e_ar; decide
set_option maxRecDepth 20000 in
theorem me_X0_beginAnew : e_me yX0_beginAnew cX0_beginAnew 1 none 0 := ⟨e_in 540 (by decide +kernel) (by decide +kernel), by decide, ⟨by decide +kernel, by decide +kernel⟩, by decide +kernel, e_in 99 (by decide +kernel) (by decide +kernel)⟩
set_option maxRecDepth 20000 in
theorem mlX0_39 : Cond.methodLink RX0 39 yX0_beginAnew ∈ e_tbl := e_in 537 (by decide +kernel) (by decide +kernel)
set_option maxRecDepth 20000 in
theorem im_X0_beginAnew : Cond.instanceMethod yX0_beginAnew ∈ e_tbl := e_in 538 (by decide +kernel) (by decide +kernel)
set_option maxRecDepth 20000 in
theorem se_X0_beginAnew : Cond.selects yX0_beginAnew.cls yX0_beginAnew yX0_beginAnew ∈ e_tbl := e_in 539 (by decide +kernel) (by decide +kernel)
set_option maxRecDepth 20000 in
theorem fk4_18 : e_fk RX4 18 4 2 "I" := ⟨by decide, by decide, by decide +kernel, e_in 308 (by decide +kernel) (by decide +kernel)⟩
set_option maxRecDepth 20000 in
theorem at_9 : e_at gN 9 4 := by unfold e_at; decide
set_option maxRecDepth 20000 in
theorem ff4_2 : ((e_cl 4).2.1 2).2.2.2 = false := by decide +kernel
set_option maxRecDepth 20000 in
theorem fk6_66 : e_fk RX6 66 6 13 "I" := ⟨by decide, by decide, by decide +kernel, e_in 206 (by decide +kernel) (by decide +kernel)⟩
set_option maxRecDepth 20000 in
theorem ff6_13 : ((e_cl 6).2.1 13).2.2.2 = false := by decide +kernel
set_option maxRecDepth 20000 in
theorem fk6_44 : e_fk RX6 44 6 8 "[Z" := ⟨by decide, by decide, by decide +kernel, e_in 201 (by decide +kernel) (by decide +kernel)⟩
set_option maxRecDepth 20000 in
theorem gr_1_8 : gR 1 8 = some 7 := rfl
set_option maxRecDepth 20000 in
theorem ar_7 : e_ar gN 7 11 5 := by unfold e_ar; decide
set_option maxRecDepth 20000 in
theorem fk6_69 : e_fk RX6 69 6 4 "I" := ⟨by decide, by decide, by decide +kernel, e_in 196 (by decide +kernel) (by decide +kernel)⟩
set_option maxRecDepth 20000 in
theorem ff6_4 : ((e_cl 6).2.1 4).2.2.2 = false := by decide +kernel
set_option maxRecDepth 20000 in
theorem fk6_18 : e_fk RX6 18 6 2 "[I" := ⟨by decide, by decide, by decide +kernel, e_in 191 (by decide +kernel) (by decide +kernel)⟩
set_option maxRecDepth 20000 in
theorem fk6_97 : e_fk RX6 97 6 10 "I" := ⟨by decide, by decide, by decide +kernel, e_in 203 (by decide +kernel) (by decide +kernel)⟩
set_option maxRecDepth 20000 in
theorem fk6_94 : e_fk RX6 94 6 9 "I" := ⟨by decide, by decide, by decide +kernel, e_in 202 (by decide +kernel) (by decide +kernel)⟩
set_option maxRecDepth 20000 in
theorem me_X6_isDigit : e_me yX6_isDigit cX6_isDigit 1 (some .boolean) 1 := ⟨e_in 493 (by decide +kernel) (by decide +kernel), by decide, ⟨by decide +kernel, by decide +kernel⟩, by decide +kernel, e_in 94 (by decide +kernel) (by decide +kernel)⟩
set_option maxRecDepth 20000 in
theorem sm_X6_isDigit : Cond.static yX6_isDigit ∈ e_tbl := e_in 492 (by decide +kernel) (by decide +kernel)
set_option maxRecDepth 20000 in
theorem mlX6_129 : Cond.methodLink RX6 129 yX6_isDigit ∈ e_tbl := e_in 491 (by decide +kernel) (by decide +kernel)
set_option maxRecDepth 20000 in
theorem fk6_82 : e_fk RX6 82 6 12 "I" := ⟨by decide, by decide, by decide +kernel, e_in 205 (by decide +kernel) (by decide +kernel)⟩
set_option maxRecDepth 20000 in
theorem ff6_12 : ((e_cl 6).2.1 12).2.2.2 = false := by decide +kernel
set_option maxRecDepth 20000 in
theorem ff6_10 : ((e_cl 6).2.1 10).2.2.2 = false := by decide +kernel
set_option maxRecDepth 20000 in
theorem fk6_79 : e_fk RX6 79 6 11 "I" := ⟨by decide, by decide, by decide +kernel, e_in 204 (by decide +kernel) (by decide +kernel)⟩
set_option maxRecDepth 20000 in
theorem ff6_11 : ((e_cl 6).2.1 11).2.2.2 = false := by decide +kernel
set_option maxRecDepth 20000 in
theorem fk6_120 : e_fk RX6 120 6 5 "I" := ⟨by decide, by decide, by decide +kernel, e_in 198 (by decide +kernel) (by decide +kernel)⟩
set_option maxRecDepth 20000 in
theorem me_X6_isLetter : e_me yX6_isLetter cX6_isLetter 1 (some .boolean) 1 := ⟨e_in 486 (by decide +kernel) (by decide +kernel), by decide, ⟨by decide +kernel, by decide +kernel⟩, by decide +kernel, e_in 94 (by decide +kernel) (by decide +kernel)⟩
set_option maxRecDepth 20000 in
theorem sm_X6_isLetter : Cond.static yX6_isLetter ∈ e_tbl := e_in 485 (by decide +kernel) (by decide +kernel)
set_option maxRecDepth 20000 in
theorem mlX6_123 : Cond.methodLink RX6 123 yX6_isLetter ∈ e_tbl := e_in 484 (by decide +kernel) (by decide +kernel)
set_option maxRecDepth 20000 in
theorem me_X6_withLetter : e_me yX6_withLetter cX6_withLetter 2 (some .int) 2 := ⟨e_in 181 (by decide +kernel) (by decide +kernel), by decide, ⟨by decide +kernel, by decide +kernel⟩, by decide +kernel, e_in 94 (by decide +kernel) (by decide +kernel)⟩
set_option maxRecDepth 20000 in
theorem sm_X6_withLetter : Cond.static yX6_withLetter ∈ e_tbl := e_in 180 (by decide +kernel) (by decide +kernel)
set_option maxRecDepth 20000 in
theorem mlX6_135 : Cond.methodLink RX6 135 yX6_withLetter ∈ e_tbl := e_in 179 (by decide +kernel) (by decide +kernel)
set_option maxRecDepth 20000 in
theorem ff6_5 : ((e_cl 6).2.1 5).2.2.2 = false := by decide +kernel
set_option maxRecDepth 20000 in
theorem me_X6_stepOverDigits : e_me yX6_stepOverDigits cX6_stepOverDigits 1 none 0 := ⟨e_in 497 (by decide +kernel) (by decide +kernel), by decide, ⟨by decide +kernel, by decide +kernel⟩, by decide +kernel, e_in 94 (by decide +kernel) (by decide +kernel)⟩
set_option maxRecDepth 20000 in
theorem mlX6_132 : Cond.methodLink RX6 132 yX6_stepOverDigits ∈ e_tbl := e_in 494 (by decide +kernel) (by decide +kernel)
set_option maxRecDepth 20000 in
theorem im_X6_stepOverDigits : Cond.instanceMethod yX6_stepOverDigits ∈ e_tbl := e_in 496 (by decide +kernel) (by decide +kernel)
set_option maxRecDepth 20000 in
theorem se_X6_stepOverDigits : Cond.selects yX6_stepOverDigits.cls yX6_stepOverDigits yX6_stepOverDigits ∈ e_tbl := e_in 6 (by decide +kernel) (by decide +kernel)
set_option maxRecDepth 20000 in
theorem me_X6_stepOverLetters : e_me yX6_stepOverLetters cX6_stepOverLetters 1 none 0 := ⟨e_in 490 (by decide +kernel) (by decide +kernel), by decide, ⟨by decide +kernel, by decide +kernel⟩, by decide +kernel, e_in 94 (by decide +kernel) (by decide +kernel)⟩
set_option maxRecDepth 20000 in
theorem mlX6_126 : Cond.methodLink RX6 126 yX6_stepOverLetters ∈ e_tbl := e_in 487 (by decide +kernel) (by decide +kernel)
set_option maxRecDepth 20000 in
theorem im_X6_stepOverLetters : Cond.instanceMethod yX6_stepOverLetters ∈ e_tbl := e_in 489 (by decide +kernel) (by decide +kernel)
set_option maxRecDepth 20000 in
theorem se_X6_stepOverLetters : Cond.selects yX6_stepOverLetters.cls yX6_stepOverLetters yX6_stepOverLetters ∈ e_tbl := e_in 5 (by decide +kernel) (by decide +kernel)
set_option maxRecDepth 20000 in
theorem me_X6_step : e_me yX6_step cX6_step 1 none 0 := ⟨e_in 483 (by decide +kernel) (by decide +kernel), by decide, ⟨by decide +kernel, by decide +kernel⟩, by decide +kernel, e_in 94 (by decide +kernel) (by decide +kernel)⟩
set_option maxRecDepth 20000 in
theorem mlX6_76 : Cond.methodLink RX6 76 yX6_step ∈ e_tbl := e_in 480 (by decide +kernel) (by decide +kernel)
set_option maxRecDepth 20000 in
theorem im_X6_step : Cond.instanceMethod yX6_step ∈ e_tbl := e_in 482 (by decide +kernel) (by decide +kernel)
set_option maxRecDepth 20000 in
theorem se_X6_step : Cond.selects yX6_step.cls yX6_step yX6_step ∈ e_tbl := e_in 4 (by decide +kernel) (by decide +kernel)
set_option maxRecDepth 20000 in
theorem me_X6_blame : e_me yX6_blame cX6_blame 2 (some .boolean) 1 := ⟨e_in 509 (by decide +kernel) (by decide +kernel), by decide, ⟨by decide +kernel, by decide +kernel⟩, by decide +kernel, e_in 94 (by decide +kernel) (by decide +kernel)⟩
set_option maxRecDepth 20000 in
theorem mlX6_72 : Cond.methodLink RX6 72 yX6_blame ∈ e_tbl := e_in 506 (by decide +kernel) (by decide +kernel)
set_option maxRecDepth 20000 in
theorem im_X6_blame : Cond.instanceMethod yX6_blame ∈ e_tbl := e_in 508 (by decide +kernel) (by decide +kernel)
set_option maxRecDepth 20000 in
theorem se_X6_blame : Cond.selects yX6_blame.cls yX6_blame yX6_blame ∈ e_tbl := e_in 9 (by decide +kernel) (by decide +kernel)
set_option maxRecDepth 20000 in
theorem fk6_41 : e_fk RX6 41 6 7 "[I" := ⟨by decide, by decide, by decide +kernel, e_in 200 (by decide +kernel) (by decide +kernel)⟩
set_option maxRecDepth 20000 in
theorem gr_1_7 : gR 1 7 = some 6 := rfl
set_option maxRecDepth 20000 in
theorem ar_6 : e_ar gN 6 9 6 := by unfold e_ar; decide
set_option maxRecDepth 20000 in
theorem fk6_15 : e_fk RX6 15 6 1 "[I" := ⟨by decide, by decide, by decide +kernel, e_in 189 (by decide +kernel) (by decide +kernel)⟩
set_option maxRecDepth 20000 in
theorem fk6_9 : e_fk RX6 9 6 0 "[I" := ⟨by decide, by decide, by decide +kernel, e_in 187 (by decide +kernel) (by decide +kernel)⟩
set_option maxRecDepth 20000 in
theorem gr_1_0 : gR 1 0 = some 2 := rfl
set_option maxRecDepth 20000 in
theorem ar_2 : e_ar gN 2 9 9 := by unfold e_ar; decide
set_option maxRecDepth 20000 in
theorem me_X6_keyOf : e_me yX6_keyOf cX6_keyOf 3 (some .int) 1 := ⟨e_in 501 (by decide +kernel) (by decide +kernel), by decide, ⟨by decide +kernel, by decide +kernel⟩, by decide +kernel, e_in 94 (by decide +kernel) (by decide +kernel)⟩
set_option maxRecDepth 20000 in
theorem mlX6_100 : Cond.methodLink RX6 100 yX6_keyOf ∈ e_tbl := e_in 498 (by decide +kernel) (by decide +kernel)
set_option maxRecDepth 20000 in
theorem im_X6_keyOf : Cond.instanceMethod yX6_keyOf ∈ e_tbl := e_in 500 (by decide +kernel) (by decide +kernel)
set_option maxRecDepth 20000 in
theorem se_X6_keyOf : Cond.selects yX6_keyOf.cls yX6_keyOf yX6_keyOf ∈ e_tbl := e_in 7 (by decide +kernel) (by decide +kernel)
set_option maxRecDepth 20000 in
theorem me_X6_isName : e_me yX6_isName cX6_isName 3 (some .boolean) 1 := ⟨e_in 513 (by decide +kernel) (by decide +kernel), by decide, ⟨by decide +kernel, by decide +kernel⟩, by decide +kernel, e_in 94 (by decide +kernel) (by decide +kernel)⟩
set_option maxRecDepth 20000 in
theorem mlX6_113 : Cond.methodLink RX6 113 yX6_isName ∈ e_tbl := e_in 510 (by decide +kernel) (by decide +kernel)
set_option maxRecDepth 20000 in
theorem im_X6_isName : Cond.instanceMethod yX6_isName ∈ e_tbl := e_in 512 (by decide +kernel) (by decide +kernel)
set_option maxRecDepth 20000 in
theorem se_X6_isName : Cond.selects yX6_isName.cls yX6_isName yX6_isName ∈ e_tbl := e_in 10 (by decide +kernel) (by decide +kernel)
set_option maxRecDepth 20000 in
theorem mlX7_66 : Cond.methodLink RX7 66 yX7_within ∈ e_tbl := e_in 451 (by decide +kernel) (by decide +kernel)
set_option maxRecDepth 20000 in
theorem me_X7_isRule : e_me yX7_isRule cX7_isRule 2 (some .boolean) 2 := ⟨e_in 524 (by decide +kernel) (by decide +kernel), by decide, ⟨by decide +kernel, by decide +kernel⟩, by decide +kernel, e_in 93 (by decide +kernel) (by decide +kernel)⟩
set_option maxRecDepth 20000 in
theorem sm_X7_isRule : Cond.static yX7_isRule ∈ e_tbl := e_in 523 (by decide +kernel) (by decide +kernel)
set_option maxRecDepth 20000 in
theorem me_X6_readRule : e_me yX6_readRule cX6_readRule 2 (some .boolean) 1 := ⟨e_in 521 (by decide +kernel) (by decide +kernel), by decide, ⟨by decide +kernel, by decide +kernel⟩, by decide +kernel, e_in 94 (by decide +kernel) (by decide +kernel)⟩
set_option maxRecDepth 20000 in
theorem mlX6_110 : Cond.methodLink RX6 110 yX6_readRule ∈ e_tbl := e_in 518 (by decide +kernel) (by decide +kernel)
set_option maxRecDepth 20000 in
theorem im_X6_readRule : Cond.instanceMethod yX6_readRule ∈ e_tbl := e_in 520 (by decide +kernel) (by decide +kernel)
set_option maxRecDepth 20000 in
theorem se_X6_readRule : Cond.selects yX6_readRule.cls yX6_readRule yX6_readRule ∈ e_tbl := e_in 12 (by decide +kernel) (by decide +kernel)
set_option maxRecDepth 20000 in
theorem me_X6_readName : e_me yX6_readName cX6_readName 1 (some .boolean) 0 := ⟨e_in 505 (by decide +kernel) (by decide +kernel), by decide, ⟨by decide +kernel, by decide +kernel⟩, by decide +kernel, e_in 94 (by decide +kernel) (by decide +kernel)⟩
set_option maxRecDepth 20000 in
theorem mlX6_104 : Cond.methodLink RX6 104 yX6_readName ∈ e_tbl := e_in 502 (by decide +kernel) (by decide +kernel)
set_option maxRecDepth 20000 in
theorem im_X6_readName : Cond.instanceMethod yX6_readName ∈ e_tbl := e_in 504 (by decide +kernel) (by decide +kernel)
set_option maxRecDepth 20000 in
theorem se_X6_readName : Cond.selects yX6_readName.cls yX6_readName yX6_readName ∈ e_tbl := e_in 8 (by decide +kernel) (by decide +kernel)
set_option maxRecDepth 20000 in
theorem me_X6_readChances : e_me yX6_readChances cX6_readChances 3 (some .boolean) 0 := ⟨e_in 517 (by decide +kernel) (by decide +kernel), by decide, ⟨by decide +kernel, by decide +kernel⟩, by decide +kernel, e_in 94 (by decide +kernel) (by decide +kernel)⟩
set_option maxRecDepth 20000 in
theorem mlX6_107 : Cond.methodLink RX6 107 yX6_readChances ∈ e_tbl := e_in 514 (by decide +kernel) (by decide +kernel)
set_option maxRecDepth 20000 in
theorem im_X6_readChances : Cond.instanceMethod yX6_readChances ∈ e_tbl := e_in 516 (by decide +kernel) (by decide +kernel)
set_option maxRecDepth 20000 in
theorem se_X6_readChances : Cond.selects yX6_readChances.cls yX6_readChances yX6_readChances ∈ e_tbl := e_in 11 (by decide +kernel) (by decide +kernel)
set_option maxRecDepth 20000 in
theorem mlX6_85 : Cond.methodLink RX6 85 Lib.Math.min.name ∈ e_tbl := e_in 466 (by decide +kernel) (by decide +kernel)
set_option maxRecDepth 20000 in
theorem st_mmin : Cond.static Lib.Math.min.name ∈ e_tbl := e_in 467 (by decide +kernel) (by decide +kernel)
set_option maxRecDepth 20000 in
theorem in_Math : Cond.initialized "java/lang/Math" ∈ e_tbl := e_in 106 (by decide +kernel) (by decide +kernel)
set_option maxRecDepth 20000 in
theorem cd_mmin : Cond.code Lib.Math.min.name Lib.Math.min.code 2 (some .int) ∈ e_tbl := e_in 468 (by decide +kernel) (by decide +kernel)
set_option maxRecDepth 20000 in
theorem mlX6_91 : Cond.methodLink RX6 91 Lib.Math.max.name ∈ e_tbl := e_in 469 (by decide +kernel) (by decide +kernel)
set_option maxRecDepth 20000 in
theorem st_mmax : Cond.static Lib.Math.max.name ∈ e_tbl := e_in 470 (by decide +kernel) (by decide +kernel)
set_option maxRecDepth 20000 in
theorem cd_mmax : Cond.code Lib.Math.max.name Lib.Math.max.code 2 (some .int) ∈ e_tbl := e_in 471 (by decide +kernel) (by decide +kernel)
set_option maxRecDepth 20000 in
theorem ff6_9 : ((e_cl 6).2.1 9).2.2.2 = false := by decide +kernel
set_option maxRecDepth 20000 in
theorem me_X6_readLine : e_me yX6_readLine cX6_readLine 2 (some .boolean) 0 := ⟨e_in 479 (by decide +kernel) (by decide +kernel), by decide, ⟨by decide +kernel, by decide +kernel⟩, by decide +kernel, e_in 94 (by decide +kernel) (by decide +kernel)⟩
set_option maxRecDepth 20000 in
theorem mlX6_59 : Cond.methodLink RX6 59 yX6_readLine ∈ e_tbl := e_in 476 (by decide +kernel) (by decide +kernel)
set_option maxRecDepth 20000 in
theorem im_X6_readLine : Cond.instanceMethod yX6_readLine ∈ e_tbl := e_in 478 (by decide +kernel) (by decide +kernel)
set_option maxRecDepth 20000 in
theorem se_X6_readLine : Cond.selects yX6_readLine.cls yX6_readLine yX6_readLine ∈ e_tbl := e_in 3 (by decide +kernel) (by decide +kernel)
set_option maxRecDepth 20000 in
theorem me_X6_goesOn : e_me yX6_goesOn cX6_goesOn 1 (some .boolean) 0 := ⟨e_in 528 (by decide +kernel) (by decide +kernel), by decide, ⟨by decide +kernel, by decide +kernel⟩, by decide +kernel, e_in 94 (by decide +kernel) (by decide +kernel)⟩
set_option maxRecDepth 20000 in
theorem mlX6_63 : Cond.methodLink RX6 63 yX6_goesOn ∈ e_tbl := e_in 525 (by decide +kernel) (by decide +kernel)
set_option maxRecDepth 20000 in
theorem im_X6_goesOn : Cond.instanceMethod yX6_goesOn ∈ e_tbl := e_in 527 (by decide +kernel) (by decide +kernel)
set_option maxRecDepth 20000 in
theorem se_X6_goesOn : Cond.selects yX6_goesOn.cls yX6_goesOn yX6_goesOn ∈ e_tbl := e_in 13 (by decide +kernel) (by decide +kernel)
set_option maxRecDepth 20000 in
theorem me_X6_startAt : e_me yX6_startAt cX6_startAt 2 none 1 := ⟨e_in 465 (by decide +kernel) (by decide +kernel), by decide, ⟨by decide +kernel, by decide +kernel⟩, by decide +kernel, e_in 94 (by decide +kernel) (by decide +kernel)⟩
set_option maxRecDepth 20000 in
theorem mlX6_52 : Cond.methodLink RX6 52 yX6_startAt ∈ e_tbl := e_in 462 (by decide +kernel) (by decide +kernel)
set_option maxRecDepth 20000 in
theorem im_X6_startAt : Cond.instanceMethod yX6_startAt ∈ e_tbl := e_in 464 (by decide +kernel) (by decide +kernel)
set_option maxRecDepth 20000 in
theorem se_X6_startAt : Cond.selects yX6_startAt.cls yX6_startAt yX6_startAt ∈ e_tbl := e_in 1 (by decide +kernel) (by decide +kernel)
set_option maxRecDepth 20000 in
theorem me_X6_clearSheet : e_me yX6_clearSheet cX6_clearSheet 2 none 0 := ⟨e_in 475 (by decide +kernel) (by decide +kernel), by decide, ⟨by decide +kernel, by decide +kernel⟩, by decide +kernel, e_in 94 (by decide +kernel) (by decide +kernel)⟩
set_option maxRecDepth 20000 in
theorem mlX6_56 : Cond.methodLink RX6 56 yX6_clearSheet ∈ e_tbl := e_in 472 (by decide +kernel) (by decide +kernel)
set_option maxRecDepth 20000 in
theorem im_X6_clearSheet : Cond.instanceMethod yX6_clearSheet ∈ e_tbl := e_in 474 (by decide +kernel) (by decide +kernel)
set_option maxRecDepth 20000 in
theorem se_X6_clearSheet : Cond.selects yX6_clearSheet.cls yX6_clearSheet yX6_clearSheet ∈ e_tbl := e_in 2 (by decide +kernel) (by decide +kernel)
set_option maxRecDepth 20000 in
theorem me_X7_refused : e_me yX7_refused cX7_refused 2 (some .boolean) 1 := ⟨e_in 457 (by decide +kernel) (by decide +kernel), by decide, ⟨by decide +kernel, by decide +kernel⟩, by decide +kernel, e_in 93 (by decide +kernel) (by decide +kernel)⟩
set_option maxRecDepth 20000 in
theorem mlX7_70 : Cond.methodLink RX7 70 yX7_refused ∈ e_tbl := e_in 454 (by decide +kernel) (by decide +kernel)
set_option maxRecDepth 20000 in
theorem im_X7_refused : Cond.instanceMethod yX7_refused ∈ e_tbl := e_in 456 (by decide +kernel) (by decide +kernel)
set_option maxRecDepth 20000 in
theorem se_X7_refused : Cond.selects yX7_refused.cls yX7_refused yX7_refused ∈ e_tbl := e_in 0 (by decide +kernel) (by decide +kernel)
set_option maxRecDepth 20000 in
theorem me_X6_read : e_me yX6_read cX6_read 4 (some .int) 1 := ⟨e_in 461 (by decide +kernel) (by decide +kernel), by decide, ⟨by decide +kernel, by decide +kernel⟩, by decide +kernel, e_in 94 (by decide +kernel) (by decide +kernel)⟩
set_option maxRecDepth 20000 in
theorem mlX7_74 : Cond.methodLink RX7 74 yX6_read ∈ e_tbl := e_in 458 (by decide +kernel) (by decide +kernel)
set_option maxRecDepth 20000 in
theorem im_X6_read : Cond.instanceMethod yX6_read ∈ e_tbl := e_in 459 (by decide +kernel) (by decide +kernel)
set_option maxRecDepth 20000 in
theorem se_X6_read : Cond.selects yX6_read.cls yX6_read yX6_read ∈ e_tbl := e_in 460 (by decide +kernel) (by decide +kernel)
set_option maxRecDepth 20000 in
theorem fk7_78 : e_fk RX7 78 7 9 "I" := ⟨by decide, by decide, by decide +kernel, e_in 414 (by decide +kernel) (by decide +kernel)⟩
set_option maxRecDepth 20000 in
theorem ff7_9 : ((e_cl 7).2.1 9).2.2.2 = false := by decide +kernel
set_option maxRecDepth 20000 in
theorem fk7_81 : e_fk RX7 81 6 5 "I" := ⟨by decide, by decide, by decide +kernel, e_in 197 (by decide +kernel) (by decide +kernel)⟩
set_option maxRecDepth 20000 in
theorem fk7_84 : e_fk RX7 84 7 10 "I" := ⟨by decide, by decide, by decide +kernel, e_in 415 (by decide +kernel) (by decide +kernel)⟩
set_option maxRecDepth 20000 in
theorem ff7_10 : ((e_cl 7).2.1 10).2.2.2 = false := by decide +kernel
set_option maxRecDepth 20000 in
theorem fk7_87 : e_fk RX7 87 6 0 "[I" := ⟨by decide, by decide, by decide +kernel, e_in 188 (by decide +kernel) (by decide +kernel)⟩
set_option maxRecDepth 20000 in
theorem fk7_16 : e_fk RX7 16 7 1 "[I" := ⟨by decide, by decide, by decide +kernel, e_in 406 (by decide +kernel) (by decide +kernel)⟩
set_option maxRecDepth 20000 in
theorem gr_0_1 : gR 0 1 = some 8 := rfl
set_option maxRecDepth 20000 in
theorem ar_8 : e_ar gN 8 9 9 := by unfold e_ar; decide
set_option maxRecDepth 20000 in
theorem mlX7_88 : Cond.methodLink RX7 88 arraycopyName ∈ e_tbl := e_in 529 (by decide +kernel) (by decide +kernel)
set_option maxRecDepth 20000 in
theorem me_X0_openWith : e_me yX0_openWith cX0_openWith 3 none 1 := ⟨e_in 535 (by decide +kernel) (by decide +kernel), by decide, ⟨by decide +kernel, by decide +kernel⟩, by decide +kernel, e_in 99 (by decide +kernel) (by decide +kernel)⟩
set_option maxRecDepth 20000 in
theorem mlX7_94 : Cond.methodLink RX7 94 yX0_openWith ∈ e_tbl := e_in 532 (by decide +kernel) (by decide +kernel)
set_option maxRecDepth 20000 in
theorem im_X0_openWith : Cond.instanceMethod yX0_openWith ∈ e_tbl := e_in 533 (by decide +kernel) (by decide +kernel)
set_option maxRecDepth 20000 in
theorem se_X0_openWith : Cond.selects yX0_openWith.cls yX0_openWith yX0_openWith ∈ e_tbl := e_in 534 (by decide +kernel) (by decide +kernel)
set_option maxRecDepth 20000 in
theorem fk7_33 : e_fk RX7 33 7 4 "LRunWorth$Past;" := ⟨by decide, by decide, by decide +kernel, e_in 409 (by decide +kernel) (by decide +kernel)⟩
set_option maxRecDepth 20000 in
theorem gr_0_4 : gR 0 4 = some 9 := rfl
set_option maxRecDepth 20000 in
theorem me_X4_forget : e_me yX4_forget cX4_forget 1 none 0 := ⟨e_in 544 (by decide +kernel) (by decide +kernel), by decide, ⟨by decide +kernel, by decide +kernel⟩, by decide +kernel, e_in 100 (by decide +kernel) (by decide +kernel)⟩
set_option maxRecDepth 20000 in
theorem mlX7_98 : Cond.methodLink RX7 98 yX4_forget ∈ e_tbl := e_in 541 (by decide +kernel) (by decide +kernel)
set_option maxRecDepth 20000 in
theorem im_X4_forget : Cond.instanceMethod yX4_forget ∈ e_tbl := e_in 542 (by decide +kernel) (by decide +kernel)
set_option maxRecDepth 20000 in
theorem se_X4_forget : Cond.selects yX4_forget.cls yX4_forget yX4_forget ∈ e_tbl := e_in 543 (by decide +kernel) (by decide +kernel)
set_option maxRecDepth 20000 in
theorem me_X7_fitMoves : e_me yX7_fitMoves cX7_fitMoves 1 none 0 := ⟨e_in 548 (by decide +kernel) (by decide +kernel), by decide, ⟨by decide +kernel, by decide +kernel⟩, by decide +kernel, e_in 93 (by decide +kernel) (by decide +kernel)⟩
set_option maxRecDepth 20000 in
theorem mlX7_101 : Cond.methodLink RX7 101 yX7_fitMoves ∈ e_tbl := e_in 545 (by decide +kernel) (by decide +kernel)
set_option maxRecDepth 20000 in
theorem im_X7_fitMoves : Cond.instanceMethod yX7_fitMoves ∈ e_tbl := e_in 547 (by decide +kernel) (by decide +kernel)
set_option maxRecDepth 20000 in
theorem se_X7_fitMoves : Cond.selects yX7_fitMoves.cls yX7_fitMoves yX7_fitMoves ∈ e_tbl := e_in 14 (by decide +kernel) (by decide +kernel)
set_option maxRecDepth 20000 in
theorem fk7_104 : e_fk RX7 104 0 0 "I" := ⟨by decide, by decide, by decide +kernel, e_in 246 (by decide +kernel) (by decide +kernel)⟩
set_option maxRecDepth 20000 in
theorem fk7_114 : e_fk RX7 114 0 1 "I" := ⟨by decide, by decide, by decide +kernel, e_in 251 (by decide +kernel) (by decide +kernel)⟩
set_option maxRecDepth 20000 in
theorem fk7_117 : e_fk RX7 117 0 2 "I" := ⟨by decide, by decide, by decide +kernel, e_in 254 (by decide +kernel) (by decide +kernel)⟩
set_option maxRecDepth 20000 in
theorem mlX7_120 : Cond.methodLink RX7 120 yX7_basesOf ∈ e_tbl := e_in 609 (by decide +kernel) (by decide +kernel)
set_option maxRecDepth 20000 in
theorem mlX7_123 : Cond.methodLink RX7 123 yX7_outsOf ∈ e_tbl := e_in 610 (by decide +kernel) (by decide +kernel)
set_option maxRecDepth 20000 in
theorem fk7_126 : e_fk RX7 126 0 3 "I" := ⟨by decide, by decide, by decide +kernel, e_in 256 (by decide +kernel) (by decide +kernel)⟩
set_option maxRecDepth 20000 in
theorem fk7_129 : e_fk RX7 129 0 4 "I" := ⟨by decide, by decide, by decide +kernel, e_in 259 (by decide +kernel) (by decide +kernel)⟩
set_option maxRecDepth 20000 in
theorem fk7_132 : e_fk RX7 132 0 5 "I" := ⟨by decide, by decide, by decide +kernel, e_in 263 (by decide +kernel) (by decide +kernel)⟩
set_option maxRecDepth 20000 in
theorem fk7_135 : e_fk RX7 135 0 6 "I" := ⟨by decide, by decide, by decide +kernel, e_in 266 (by decide +kernel) (by decide +kernel)⟩
set_option maxRecDepth 20000 in
theorem fk7_138 : e_fk RX7 138 4 2 "I" := ⟨by decide, by decide, by decide +kernel, e_in 309 (by decide +kernel) (by decide +kernel)⟩
set_option maxRecDepth 20000 in
theorem me_X7_hasText : e_me yX7_hasText cX7_hasText 1 (some .boolean) 0 := ⟨e_in 608 (by decide +kernel) (by decide +kernel), by decide, ⟨by decide +kernel, by decide +kernel⟩, by decide +kernel, e_in 93 (by decide +kernel) (by decide +kernel)⟩
set_option maxRecDepth 20000 in
theorem mlX7_110 : Cond.methodLink RX7 110 yX7_hasText ∈ e_tbl := e_in 605 (by decide +kernel) (by decide +kernel)
set_option maxRecDepth 20000 in
theorem im_X7_hasText : Cond.instanceMethod yX7_hasText ∈ e_tbl := e_in 607 (by decide +kernel) (by decide +kernel)
set_option maxRecDepth 20000 in
theorem se_X7_hasText : Cond.selects yX7_hasText.cls yX7_hasText yX7_hasText ∈ e_tbl := e_in 20 (by decide +kernel) (by decide +kernel)
set_option maxRecDepth 20000 in
theorem fk0_21 : e_fk RX0 21 0 11 "[I" := ⟨by decide, by decide, by decide +kernel, e_in 271 (by decide +kernel) (by decide +kernel)⟩
set_option maxRecDepth 20000 in
theorem me_X0_hasRow : e_me yX0_hasRow cX0_hasRow 2 (some .boolean) 1 := ⟨e_in 638 (by decide +kernel) (by decide +kernel), by decide, ⟨by decide +kernel, by decide +kernel⟩, by decide +kernel, e_in 99 (by decide +kernel) (by decide +kernel)⟩
set_option maxRecDepth 20000 in
theorem mlX0_108 : Cond.methodLink RX0 108 yX0_hasRow ∈ e_tbl := e_in 635 (by decide +kernel) (by decide +kernel)
set_option maxRecDepth 20000 in
theorem im_X0_hasRow : Cond.instanceMethod yX0_hasRow ∈ e_tbl := e_in 636 (by decide +kernel) (by decide +kernel)
set_option maxRecDepth 20000 in
theorem se_X0_hasRow : Cond.selects yX0_hasRow.cls yX0_hasRow yX0_hasRow ∈ e_tbl := e_in 637 (by decide +kernel) (by decide +kernel)
set_option maxRecDepth 20000 in
theorem me_X0_noted : e_me yX0_noted cX0_noted 4 (some .int) 2 := ⟨e_in 634 (by decide +kernel) (by decide +kernel), by decide, ⟨by decide +kernel, by decide +kernel⟩, by decide +kernel, e_in 99 (by decide +kernel) (by decide +kernel)⟩
set_option maxRecDepth 20000 in
theorem mlX0_112 : Cond.methodLink RX0 112 yX0_noted ∈ e_tbl := e_in 631 (by decide +kernel) (by decide +kernel)
set_option maxRecDepth 20000 in
theorem im_X0_noted : Cond.instanceMethod yX0_noted ∈ e_tbl := e_in 632 (by decide +kernel) (by decide +kernel)
set_option maxRecDepth 20000 in
theorem se_X0_noted : Cond.selects yX0_noted.cls yX0_noted yX0_noted ∈ e_tbl := e_in 633 (by decide +kernel) (by decide +kernel)
set_option maxRecDepth 20000 in
theorem me_X0_placeOf : e_me yX0_placeOf cX0_placeOf 3 (some .int) 1 := ⟨e_in 626 (by decide +kernel) (by decide +kernel), by decide, ⟨by decide +kernel, by decide +kernel⟩, by decide +kernel, e_in 99 (by decide +kernel) (by decide +kernel)⟩
set_option maxRecDepth 20000 in
theorem mlX7_145 : Cond.methodLink RX7 145 yX0_placeOf ∈ e_tbl := e_in 623 (by decide +kernel) (by decide +kernel)
set_option maxRecDepth 20000 in
theorem im_X0_placeOf : Cond.instanceMethod yX0_placeOf ∈ e_tbl := e_in 624 (by decide +kernel) (by decide +kernel)
set_option maxRecDepth 20000 in
theorem se_X0_placeOf : Cond.selects yX0_placeOf.cls yX0_placeOf yX0_placeOf ∈ e_tbl := e_in 625 (by decide +kernel) (by decide +kernel)
set_option maxRecDepth 20000 in
theorem me_X0_rowsOf : e_me yX0_rowsOf cX0_rowsOf 4 (some .int) 1 := ⟨e_in 630 (by decide +kernel) (by decide +kernel), by decide, ⟨by decide +kernel, by decide +kernel⟩, by decide +kernel, e_in 99 (by decide +kernel) (by decide +kernel)⟩
set_option maxRecDepth 20000 in
theorem mlX7_148 : Cond.methodLink RX7 148 yX0_rowsOf ∈ e_tbl := e_in 627 (by decide +kernel) (by decide +kernel)
set_option maxRecDepth 20000 in
theorem im_X0_rowsOf : Cond.instanceMethod yX0_rowsOf ∈ e_tbl := e_in 628 (by decide +kernel) (by decide +kernel)
set_option maxRecDepth 20000 in
theorem se_X0_rowsOf : Cond.selects yX0_rowsOf.cls yX0_rowsOf yX0_rowsOf ∈ e_tbl := e_in 629 (by decide +kernel) (by decide +kernel)
set_option maxRecDepth 20000 in
theorem me_X0_runsOf : e_me yX0_runsOf cX0_runsOf 4 (some .int) 1 := ⟨e_in 642 (by decide +kernel) (by decide +kernel), by decide, ⟨by decide +kernel, by decide +kernel⟩, by decide +kernel, e_in 99 (by decide +kernel) (by decide +kernel)⟩
set_option maxRecDepth 20000 in
theorem mlX7_151 : Cond.methodLink RX7 151 yX0_runsOf ∈ e_tbl := e_in 639 (by decide +kernel) (by decide +kernel)
set_option maxRecDepth 20000 in
theorem im_X0_runsOf : Cond.instanceMethod yX0_runsOf ∈ e_tbl := e_in 640 (by decide +kernel) (by decide +kernel)
set_option maxRecDepth 20000 in
theorem se_X0_runsOf : Cond.selects yX0_runsOf.cls yX0_runsOf yX0_runsOf ∈ e_tbl := e_in 641 (by decide +kernel) (by decide +kernel)
set_option maxRecDepth 20000 in
theorem me_X0_chanceOf : e_me yX0_chanceOf cX0_chanceOf 3 (some .int) 2 := ⟨e_in 646 (by decide +kernel) (by decide +kernel), by decide, ⟨by decide +kernel, by decide +kernel⟩, by decide +kernel, e_in 99 (by decide +kernel) (by decide +kernel)⟩
set_option maxRecDepth 20000 in
theorem mlX7_154 : Cond.methodLink RX7 154 yX0_chanceOf ∈ e_tbl := e_in 643 (by decide +kernel) (by decide +kernel)
set_option maxRecDepth 20000 in
theorem im_X0_chanceOf : Cond.instanceMethod yX0_chanceOf ∈ e_tbl := e_in 644 (by decide +kernel) (by decide +kernel)
set_option maxRecDepth 20000 in
theorem se_X0_chanceOf : Cond.selects yX0_chanceOf.cls yX0_chanceOf yX0_chanceOf ∈ e_tbl := e_in 645 (by decide +kernel) (by decide +kernel)
set_option maxRecDepth 20000 in
theorem me_X0_hasBatter : e_me yX0_hasBatter cX0_hasBatter 2 (some .boolean) 1 := ⟨e_in 622 (by decide +kernel) (by decide +kernel), by decide, ⟨by decide +kernel, by decide +kernel⟩, by decide +kernel, e_in 99 (by decide +kernel) (by decide +kernel)⟩
set_option maxRecDepth 20000 in
theorem mlX7_142 : Cond.methodLink RX7 142 yX0_hasBatter ∈ e_tbl := e_in 619 (by decide +kernel) (by decide +kernel)
set_option maxRecDepth 20000 in
theorem im_X0_hasBatter : Cond.instanceMethod yX0_hasBatter ∈ e_tbl := e_in 620 (by decide +kernel) (by decide +kernel)
set_option maxRecDepth 20000 in
theorem se_X0_hasBatter : Cond.selects yX0_hasBatter.cls yX0_hasBatter yX0_hasBatter ∈ e_tbl := e_in 621 (by decide +kernel) (by decide +kernel)
set_option maxRecDepth 20000 in
theorem me_X0_batterAt : e_me yX0_batterAt cX0_batterAt 2 (some .int) 1 := ⟨e_in 658 (by decide +kernel) (by decide +kernel), by decide, ⟨by decide +kernel, by decide +kernel⟩, by decide +kernel, e_in 99 (by decide +kernel) (by decide +kernel)⟩
set_option maxRecDepth 20000 in
theorem mlX7_161 : Cond.methodLink RX7 161 yX0_batterAt ∈ e_tbl := e_in 655 (by decide +kernel) (by decide +kernel)
set_option maxRecDepth 20000 in
theorem im_X0_batterAt : Cond.instanceMethod yX0_batterAt ∈ e_tbl := e_in 656 (by decide +kernel) (by decide +kernel)
set_option maxRecDepth 20000 in
theorem se_X0_batterAt : Cond.selects yX0_batterAt.cls yX0_batterAt yX0_batterAt ∈ e_tbl := e_in 657 (by decide +kernel) (by decide +kernel)
set_option maxRecDepth 20000 in
theorem me_X0_hasPlace : e_me yX0_hasPlace cX0_hasPlace 2 (some .boolean) 1 := ⟨e_in 654 (by decide +kernel) (by decide +kernel), by decide, ⟨by decide +kernel, by decide +kernel⟩, by decide +kernel, e_in 99 (by decide +kernel) (by decide +kernel)⟩
set_option maxRecDepth 20000 in
theorem mlX7_158 : Cond.methodLink RX7 158 yX0_hasPlace ∈ e_tbl := e_in 651 (by decide +kernel) (by decide +kernel)
set_option maxRecDepth 20000 in
theorem im_X0_hasPlace : Cond.instanceMethod yX0_hasPlace ∈ e_tbl := e_in 652 (by decide +kernel) (by decide +kernel)
set_option maxRecDepth 20000 in
theorem se_X0_hasPlace : Cond.selects yX0_hasPlace.cls yX0_hasPlace yX0_hasPlace ∈ e_tbl := e_in 653 (by decide +kernel) (by decide +kernel)
set_option maxRecDepth 20000 in
theorem mlX0_67 : Cond.methodLink RX0 67 yX0_batterAt ∈ e_tbl := e_in 672 (by decide +kernel) (by decide +kernel)
set_option maxRecDepth 20000 in
theorem mlX0_75 : Cond.methodLink RX0 75 yX0_placeOf ∈ e_tbl := e_in 667 (by decide +kernel) (by decide +kernel)
set_option maxRecDepth 20000 in
theorem me_X0_batterRound : e_me yX0_batterRound cX0_batterRound 2 (some .int) 1 := ⟨e_in 671 (by decide +kernel) (by decide +kernel), by decide, ⟨by decide +kernel, by decide +kernel⟩, by decide +kernel, e_in 99 (by decide +kernel) (by decide +kernel)⟩
set_option maxRecDepth 20000 in
theorem mlX0_78 : Cond.methodLink RX0 78 yX0_batterRound ∈ e_tbl := e_in 668 (by decide +kernel) (by decide +kernel)
set_option maxRecDepth 20000 in
theorem im_X0_batterRound : Cond.instanceMethod yX0_batterRound ∈ e_tbl := e_in 669 (by decide +kernel) (by decide +kernel)
set_option maxRecDepth 20000 in
theorem se_X0_batterRound : Cond.selects yX0_batterRound.cls yX0_batterRound yX0_batterRound ∈ e_tbl := e_in 670 (by decide +kernel) (by decide +kernel)
set_option maxRecDepth 20000 in
theorem me_X0_batterBehind : e_me yX0_batterBehind cX0_batterBehind 2 (some .int) 1 := ⟨e_in 666 (by decide +kernel) (by decide +kernel), by decide, ⟨by decide +kernel, by decide +kernel⟩, by decide +kernel, e_in 99 (by decide +kernel) (by decide +kernel)⟩
set_option maxRecDepth 20000 in
theorem mlX7_164 : Cond.methodLink RX7 164 yX0_batterBehind ∈ e_tbl := e_in 663 (by decide +kernel) (by decide +kernel)
set_option maxRecDepth 20000 in
theorem im_X0_batterBehind : Cond.instanceMethod yX0_batterBehind ∈ e_tbl := e_in 664 (by decide +kernel) (by decide +kernel)
set_option maxRecDepth 20000 in
theorem se_X0_batterBehind : Cond.selects yX0_batterBehind.cls yX0_batterBehind yX0_batterBehind ∈ e_tbl := e_in 665 (by decide +kernel) (by decide +kernel)
set_option maxRecDepth 20000 in
theorem mlX0_81 : Cond.methodLink RX0 81 yX0_chanceOf ∈ e_tbl := e_in 684 (by decide +kernel) (by decide +kernel)
set_option maxRecDepth 20000 in
theorem mlX0_88 : Cond.methodLink RX0 88 Lib.Math.min.name ∈ e_tbl := e_in 689 (by decide +kernel) (by decide +kernel)
set_option maxRecDepth 20000 in
theorem me_X0_tiredBy : e_me yX0_tiredBy cX0_tiredBy 4 (some .int) 2 := ⟨e_in 688 (by decide +kernel) (by decide +kernel), by decide, ⟨by decide +kernel, by decide +kernel⟩, by decide +kernel, e_in 99 (by decide +kernel) (by decide +kernel)⟩
set_option maxRecDepth 20000 in
theorem mlX0_85 : Cond.methodLink RX0 85 yX0_tiredBy ∈ e_tbl := e_in 685 (by decide +kernel) (by decide +kernel)
set_option maxRecDepth 20000 in
theorem im_X0_tiredBy : Cond.instanceMethod yX0_tiredBy ∈ e_tbl := e_in 686 (by decide +kernel) (by decide +kernel)
set_option maxRecDepth 20000 in
theorem se_X0_tiredBy : Cond.selects yX0_tiredBy.cls yX0_tiredBy yX0_tiredBy ∈ e_tbl := e_in 687 (by decide +kernel) (by decide +kernel)
set_option maxRecDepth 20000 in
theorem me_X0_tiredChance : e_me yX0_tiredChance cX0_tiredChance 5 (some .int) 3 := ⟨e_in 683 (by decide +kernel) (by decide +kernel), by decide, ⟨by decide +kernel, by decide +kernel⟩, by decide +kernel, e_in 99 (by decide +kernel) (by decide +kernel)⟩
set_option maxRecDepth 20000 in
theorem mlX7_170 : Cond.methodLink RX7 170 yX0_tiredChance ∈ e_tbl := e_in 680 (by decide +kernel) (by decide +kernel)
set_option maxRecDepth 20000 in
theorem im_X0_tiredChance : Cond.instanceMethod yX0_tiredChance ∈ e_tbl := e_in 681 (by decide +kernel) (by decide +kernel)
set_option maxRecDepth 20000 in
theorem se_X0_tiredChance : Cond.selects yX0_tiredChance.cls yX0_tiredChance yX0_tiredChance ∈ e_tbl := e_in 682 (by decide +kernel) (by decide +kernel)
set_option maxRecDepth 20000 in
theorem me_X7_isHit : e_me yX7_isHit cX7_isHit 1 (some .boolean) 1 := ⟨e_in 679 (by decide +kernel) (by decide +kernel), by decide, ⟨by decide +kernel, by decide +kernel⟩, by decide +kernel, e_in 93 (by decide +kernel) (by decide +kernel)⟩
set_option maxRecDepth 20000 in
theorem sm_X7_isHit : Cond.static yX7_isHit ∈ e_tbl := e_in 678 (by decide +kernel) (by decide +kernel)
set_option maxRecDepth 20000 in
theorem mlX7_167 : Cond.methodLink RX7 167 yX7_isHit ∈ e_tbl := e_in 677 (by decide +kernel) (by decide +kernel)
set_option maxRecDepth 20000 in
theorem me_X2_behind : e_me yX2_behind cX2_behind 3 (some .int) 2 := ⟨e_in 709 (by decide +kernel) (by decide +kernel), by decide, ⟨by decide +kernel, by decide +kernel⟩, by decide +kernel, e_in 102 (by decide +kernel) (by decide +kernel)⟩
set_option maxRecDepth 20000 in
theorem mlX2_62 : Cond.methodLink RX2 62 yX2_behind ∈ e_tbl := e_in 706 (by decide +kernel) (by decide +kernel)
set_option maxRecDepth 20000 in
theorem im_X2_behind : Cond.instanceMethod yX2_behind ∈ e_tbl := e_in 707 (by decide +kernel) (by decide +kernel)
set_option maxRecDepth 20000 in
theorem se_X2_behind : Cond.selects yX2_behind.cls yX2_behind yX2_behind ∈ e_tbl := e_in 708 (by decide +kernel) (by decide +kernel)
set_option maxRecDepth 20000 in
theorem me_X7_isState : e_me yX7_isState cX7_isState 2 (some .boolean) 2 := ⟨e_in 700 (by decide +kernel) (by decide +kernel), by decide, ⟨by decide +kernel, by decide +kernel⟩, by decide +kernel, e_in 93 (by decide +kernel) (by decide +kernel)⟩
set_option maxRecDepth 20000 in
theorem sm_X7_isState : Cond.static yX7_isState ∈ e_tbl := e_in 699 (by decide +kernel) (by decide +kernel)
set_option maxRecDepth 20000 in
theorem mlX7_193 : Cond.methodLink RX7 193 yX7_isState ∈ e_tbl := e_in 698 (by decide +kernel) (by decide +kernel)
set_option maxRecDepth 20000 in
theorem mlX7_178 : Cond.methodLink RX7 178 yX7_stateOf ∈ e_tbl := e_in 701 (by decide +kernel) (by decide +kernel)
set_option maxRecDepth 20000 in
theorem me_X2_can : e_me yX2_can cX2_can 3 (some .boolean) 2 := ⟨e_in 705 (by decide +kernel) (by decide +kernel), by decide, ⟨by decide +kernel, by decide +kernel⟩, by decide +kernel, e_in 102 (by decide +kernel) (by decide +kernel)⟩
set_option maxRecDepth 20000 in
theorem mlX7_197 : Cond.methodLink RX7 197 yX2_can ∈ e_tbl := e_in 702 (by decide +kernel) (by decide +kernel)
set_option maxRecDepth 20000 in
theorem im_X2_can : Cond.instanceMethod yX2_can ∈ e_tbl := e_in 703 (by decide +kernel) (by decide +kernel)
set_option maxRecDepth 20000 in
theorem se_X2_can : Cond.selects yX2_can.cls yX2_can yX2_can ∈ e_tbl := e_in 704 (by decide +kernel) (by decide +kernel)
set_option maxRecDepth 20000 in
theorem me_X7_troubleOfAfter : e_me yX7_troubleOfAfter cX7_troubleOfAfter 5 (some .int) 4 := ⟨e_in 697 (by decide +kernel) (by decide +kernel), by decide, ⟨by decide +kernel, by decide +kernel⟩, by decide +kernel, e_in 93 (by decide +kernel) (by decide +kernel)⟩
set_option maxRecDepth 20000 in
theorem mlX7_174 : Cond.methodLink RX7 174 yX7_troubleOfAfter ∈ e_tbl := e_in 694 (by decide +kernel) (by decide +kernel)
set_option maxRecDepth 20000 in
theorem im_X7_troubleOfAfter : Cond.instanceMethod yX7_troubleOfAfter ∈ e_tbl := e_in 696 (by decide +kernel) (by decide +kernel)
set_option maxRecDepth 20000 in
theorem se_X7_troubleOfAfter : Cond.selects yX7_troubleOfAfter.cls yX7_troubleOfAfter yX7_troubleOfAfter ∈ e_tbl := e_in 21 (by decide +kernel) (by decide +kernel)
set_option maxRecDepth 20000 in
theorem mlX7_185 : Cond.methodLink RX7 185 yX2_behind ∈ e_tbl := e_in 710 (by decide +kernel) (by decide +kernel)
set_option maxRecDepth 20000 in
theorem me_X2_runsBy : e_me yX2_runsBy cX2_runsBy 3 (some .int) 2 := ⟨e_in 714 (by decide +kernel) (by decide +kernel), by decide, ⟨by decide +kernel, by decide +kernel⟩, by decide +kernel, e_in 102 (by decide +kernel) (by decide +kernel)⟩
set_option maxRecDepth 20000 in
theorem mlX7_190 : Cond.methodLink RX7 190 yX2_runsBy ∈ e_tbl := e_in 711 (by decide +kernel) (by decide +kernel)
set_option maxRecDepth 20000 in
theorem im_X2_runsBy : Cond.instanceMethod yX2_runsBy ∈ e_tbl := e_in 712 (by decide +kernel) (by decide +kernel)
set_option maxRecDepth 20000 in
theorem se_X2_runsBy : Cond.selects yX2_runsBy.cls yX2_runsBy yX2_runsBy ∈ e_tbl := e_in 713 (by decide +kernel) (by decide +kernel)
set_option maxRecDepth 20000 in
theorem me_X7_commonDivisor : e_me yX7_commonDivisor cX7_commonDivisor 7 (some .long) 2 := ⟨e_in 768 (by decide +kernel) (by decide +kernel), by decide, ⟨by decide +kernel, by decide +kernel⟩, by decide +kernel, e_in 93 (by decide +kernel) (by decide +kernel)⟩
set_option maxRecDepth 20000 in
theorem sm_X7_commonDivisor : Cond.static yX7_commonDivisor ∈ e_tbl := e_in 767 (by decide +kernel) (by decide +kernel)
set_option maxRecDepth 20000 in
theorem mlX7_365 : Cond.methodLink RX7 365 yX7_commonDivisor ∈ e_tbl := e_in 766 (by decide +kernel) (by decide +kernel)
set_option maxRecDepth 20000 in
theorem clX7_207 : Cond.constantLong RX7 207 (-1) ∈ e_tbl := e_in 729 (by decide +kernel) (by decide +kernel)
set_option maxRecDepth 20000 in
theorem me_X7_isDepth : e_me yX7_isDepth cX7_isDepth 1 (some .boolean) 1 := ⟨e_in 728 (by decide +kernel) (by decide +kernel), by decide, ⟨by decide +kernel, by decide +kernel⟩, by decide +kernel, e_in 93 (by decide +kernel) (by decide +kernel)⟩
set_option maxRecDepth 20000 in
theorem sm_X7_isDepth : Cond.static yX7_isDepth ∈ e_tbl := e_in 727 (by decide +kernel) (by decide +kernel)
set_option maxRecDepth 20000 in
theorem mlX7_246 : Cond.methodLink RX7 246 yX7_isDepth ∈ e_tbl := e_in 726 (by decide +kernel) (by decide +kernel)
set_option maxRecDepth 20000 in
theorem fk1_22 : e_fk RX1 22 1 2 "[J" := ⟨by decide, by decide, by decide +kernel, e_in 351 (by decide +kernel) (by decide +kernel)⟩
set_option maxRecDepth 20000 in
theorem gr_11_2 : gR 11 2 = some 16 := rfl
set_option maxRecDepth 20000 in
theorem ar_16 : e_ar gN 16 12 6 := by unfold e_ar; decide
set_option maxRecDepth 20000 in
theorem fk1_18 : e_fk RX1 18 1 1 "[J" := ⟨by decide, by decide, by decide +kernel, e_in 350 (by decide +kernel) (by decide +kernel)⟩
set_option maxRecDepth 20000 in
theorem gr_11_1 : gR 11 1 = some 15 := rfl
set_option maxRecDepth 20000 in
theorem ar_15 : e_ar gN 15 12 150 := by unfold e_ar; decide
set_option maxRecDepth 20000 in
theorem fk1_67 : e_fk RX1 67 1 5 "Z" := ⟨by decide, by decide, by decide +kernel, e_in 354 (by decide +kernel) (by decide +kernel)⟩
set_option maxRecDepth 20000 in
theorem fk1_25 : e_fk RX1 25 1 3 "[I" := ⟨by decide, by decide, by decide +kernel, e_in 352 (by decide +kernel) (by decide +kernel)⟩
set_option maxRecDepth 20000 in
theorem gr_11_3 : gR 11 3 = some 17 := rfl
set_option maxRecDepth 20000 in
theorem ar_17 : e_ar gN 17 9 6 := by unfold e_ar; decide
set_option maxRecDepth 20000 in
theorem fk1_12 : e_fk RX1 12 1 0 "LRunWorth$Moves;" := ⟨by decide, by decide, by decide +kernel, e_in 347 (by decide +kernel) (by decide +kernel)⟩
set_option maxRecDepth 20000 in
theorem fk1_89 : e_fk RX1 89 2 1 "[I" := ⟨by decide, by decide, by decide +kernel, e_in 332 (by decide +kernel) (by decide +kernel)⟩
set_option maxRecDepth 20000 in
theorem fk1_92 : e_fk RX1 92 2 0 "[I" := ⟨by decide, by decide, by decide +kernel, e_in 330 (by decide +kernel) (by decide +kernel)⟩
set_option maxRecDepth 20000 in
theorem me_X1_gain : e_me yX1_gain cX1_gain 4 (some .long) 3 := ⟨e_in 758 (by decide +kernel) (by decide +kernel), by decide, ⟨by decide +kernel, by decide +kernel⟩, by decide +kernel, e_in 101 (by decide +kernel) (by decide +kernel)⟩
set_option maxRecDepth 20000 in
theorem mlX1_95 : Cond.methodLink RX1 95 yX1_gain ∈ e_tbl := e_in 755 (by decide +kernel) (by decide +kernel)
set_option maxRecDepth 20000 in
theorem im_X1_gain : Cond.instanceMethod yX1_gain ∈ e_tbl := e_in 757 (by decide +kernel) (by decide +kernel)
set_option maxRecDepth 20000 in
theorem se_X1_gain : Cond.selects yX1_gain.cls yX1_gain yX1_gain ∈ e_tbl := e_in 23 (by decide +kernel) (by decide +kernel)
set_option maxRecDepth 20000 in
theorem me_X1_hitMean : e_me yX1_hitMean cX1_hitMean 7 (some .long) 2 := ⟨e_in 754 (by decide +kernel) (by decide +kernel), by decide, ⟨by decide +kernel, by decide +kernel⟩, by decide +kernel, e_in 101 (by decide +kernel) (by decide +kernel)⟩
set_option maxRecDepth 20000 in
theorem mlX1_63 : Cond.methodLink RX1 63 yX1_hitMean ∈ e_tbl := e_in 751 (by decide +kernel) (by decide +kernel)
set_option maxRecDepth 20000 in
theorem im_X1_hitMean : Cond.instanceMethod yX1_hitMean ∈ e_tbl := e_in 752 (by decide +kernel) (by decide +kernel)
set_option maxRecDepth 20000 in
theorem se_X1_hitMean : Cond.selects yX1_hitMean.cls yX1_hitMean yX1_hitMean ∈ e_tbl := e_in 753 (by decide +kernel) (by decide +kernel)
set_option maxRecDepth 20000 in
theorem mlX1_36 : Cond.methodLink RX1 36 yX0_chanceOf ∈ e_tbl := e_in 744 (by decide +kernel) (by decide +kernel)
set_option maxRecDepth 20000 in
theorem mlX1_42 : Cond.methodLink RX1 42 yX0_tiredBy ∈ e_tbl := e_in 745 (by decide +kernel) (by decide +kernel)
set_option maxRecDepth 20000 in
theorem mlX1_51 : Cond.methodLink RX1 51 yX0_batterRound ∈ e_tbl := e_in 739 (by decide +kernel) (by decide +kernel)
set_option maxRecDepth 20000 in
theorem me_X1_sendUp : e_me yX1_sendUp cX1_sendUp 5 none 3 := ⟨e_in 743 (by decide +kernel) (by decide +kernel), by decide, ⟨by decide +kernel, by decide +kernel⟩, by decide +kernel, e_in 101 (by decide +kernel) (by decide +kernel)⟩
set_option maxRecDepth 20000 in
theorem mlX1_55 : Cond.methodLink RX1 55 yX1_sendUp ∈ e_tbl := e_in 740 (by decide +kernel) (by decide +kernel)
set_option maxRecDepth 20000 in
theorem im_X1_sendUp : Cond.instanceMethod yX1_sendUp ∈ e_tbl := e_in 741 (by decide +kernel) (by decide +kernel)
set_option maxRecDepth 20000 in
theorem se_X1_sendUp : Cond.selects yX1_sendUp.cls yX1_sendUp yX1_sendUp ∈ e_tbl := e_in 742 (by decide +kernel) (by decide +kernel)
set_option maxRecDepth 20000 in
theorem me_X1_fillRow : e_me yX1_fillRow cX1_fillRow 3 none 1 := ⟨e_in 749 (by decide +kernel) (by decide +kernel), by decide, ⟨by decide +kernel, by decide +kernel⟩, by decide +kernel, e_in 101 (by decide +kernel) (by decide +kernel)⟩
set_option maxRecDepth 20000 in
theorem mlX1_59 : Cond.methodLink RX1 59 yX1_fillRow ∈ e_tbl := e_in 746 (by decide +kernel) (by decide +kernel)
set_option maxRecDepth 20000 in
theorem im_X1_fillRow : Cond.instanceMethod yX1_fillRow ∈ e_tbl := e_in 747 (by decide +kernel) (by decide +kernel)
set_option maxRecDepth 20000 in
theorem se_X1_fillRow : Cond.selects yX1_fillRow.cls yX1_fillRow yX1_fillRow ∈ e_tbl := e_in 748 (by decide +kernel) (by decide +kernel)
set_option maxRecDepth 20000 in
theorem clX1_45 : Cond.constantLong RX1 45 (20) ∈ e_tbl := e_in 734 (by decide +kernel) (by decide +kernel)
set_option maxRecDepth 20000 in
theorem me_X1_scaleBy : e_me yX1_scaleBy cX1_scaleBy 4 none 1 := ⟨e_in 738 (by decide +kernel) (by decide +kernel), by decide, ⟨by decide +kernel, by decide +kernel⟩, by decide +kernel, e_in 101 (by decide +kernel) (by decide +kernel)⟩
set_option maxRecDepth 20000 in
theorem mlX1_47 : Cond.methodLink RX1 47 yX1_scaleBy ∈ e_tbl := e_in 735 (by decide +kernel) (by decide +kernel)
set_option maxRecDepth 20000 in
theorem im_X1_scaleBy : Cond.instanceMethod yX1_scaleBy ∈ e_tbl := e_in 736 (by decide +kernel) (by decide +kernel)
set_option maxRecDepth 20000 in
theorem se_X1_scaleBy : Cond.selects yX1_scaleBy.cls yX1_scaleBy yX1_scaleBy ∈ e_tbl := e_in 737 (by decide +kernel) (by decide +kernel)
set_option maxRecDepth 20000 in
theorem me_X7_isPart : e_me yX7_isPart cX7_isPart 1 (some .boolean) 1 := ⟨e_in 721 (by decide +kernel) (by decide +kernel), by decide, ⟨by decide +kernel, by decide +kernel⟩, by decide +kernel, e_in 93 (by decide +kernel) (by decide +kernel)⟩
set_option maxRecDepth 20000 in
theorem sm_X7_isPart : Cond.static yX7_isPart ∈ e_tbl := e_in 720 (by decide +kernel) (by decide +kernel)
set_option maxRecDepth 20000 in
theorem mlX7_200 : Cond.methodLink RX7 200 yX7_isPart ∈ e_tbl := e_in 719 (by decide +kernel) (by decide +kernel)
set_option maxRecDepth 20000 in
theorem me_X7_troubleAhead : e_me yX7_troubleAhead cX7_troubleAhead 5 (some .int) 4 := ⟨e_in 725 (by decide +kernel) (by decide +kernel), by decide, ⟨by decide +kernel, by decide +kernel⟩, by decide +kernel, e_in 93 (by decide +kernel) (by decide +kernel)⟩
set_option maxRecDepth 20000 in
theorem mlX7_203 : Cond.methodLink RX7 203 yX7_troubleAhead ∈ e_tbl := e_in 722 (by decide +kernel) (by decide +kernel)
set_option maxRecDepth 20000 in
theorem im_X7_troubleAhead : Cond.instanceMethod yX7_troubleAhead ∈ e_tbl := e_in 724 (by decide +kernel) (by decide +kernel)
set_option maxRecDepth 20000 in
theorem se_X7_troubleAhead : Cond.selects yX7_troubleAhead.cls yX7_troubleAhead yX7_troubleAhead ∈ e_tbl := e_in 22 (by decide +kernel) (by decide +kernel)
set_option maxRecDepth 20000 in
theorem me_X1_plainMean : e_me yX1_plainMean cX1_plainMean 7 (some .long) 5 := ⟨e_in 733 (by decide +kernel) (by decide +kernel), by decide, ⟨by decide +kernel, by decide +kernel⟩, by decide +kernel, e_in 101 (by decide +kernel) (by decide +kernel)⟩
set_option maxRecDepth 20000 in
theorem mlX7_209 : Cond.methodLink RX7 209 yX1_plainMean ∈ e_tbl := e_in 730 (by decide +kernel) (by decide +kernel)
set_option maxRecDepth 20000 in
theorem im_X1_plainMean : Cond.instanceMethod yX1_plainMean ∈ e_tbl := e_in 731 (by decide +kernel) (by decide +kernel)
set_option maxRecDepth 20000 in
theorem se_X1_plainMean : Cond.selects yX1_plainMean.cls yX1_plainMean yX1_plainMean ∈ e_tbl := e_in 732 (by decide +kernel) (by decide +kernel)
set_option maxRecDepth 20000 in
theorem me_X1_unit : e_me yX1_unit cX1_unit 2 (some .long) 1 := ⟨e_in 762 (by decide +kernel) (by decide +kernel), by decide, ⟨by decide +kernel, by decide +kernel⟩, by decide +kernel, e_in 101 (by decide +kernel) (by decide +kernel)⟩
set_option maxRecDepth 20000 in
theorem mlX7_213 : Cond.methodLink RX7 213 yX1_unit ∈ e_tbl := e_in 759 (by decide +kernel) (by decide +kernel)
set_option maxRecDepth 20000 in
theorem im_X1_unit : Cond.instanceMethod yX1_unit ∈ e_tbl := e_in 760 (by decide +kernel) (by decide +kernel)
set_option maxRecDepth 20000 in
theorem se_X1_unit : Cond.selects yX1_unit.cls yX1_unit yX1_unit ∈ e_tbl := e_in 761 (by decide +kernel) (by decide +kernel)
set_option maxRecDepth 20000 in
theorem me_X7_part : e_me yX7_part cX7_part 7 (some .long) 3 := ⟨e_in 765 (by decide +kernel) (by decide +kernel), by decide, ⟨by decide +kernel, by decide +kernel⟩, by decide +kernel, e_in 93 (by decide +kernel) (by decide +kernel)⟩
set_option maxRecDepth 20000 in
theorem sm_X7_part : Cond.static yX7_part ∈ e_tbl := e_in 764 (by decide +kernel) (by decide +kernel)
set_option maxRecDepth 20000 in
theorem mlX7_217 : Cond.methodLink RX7 217 yX7_part ∈ e_tbl := e_in 763 (by decide +kernel) (by decide +kernel)
set_option maxRecDepth 20000 in
theorem ff1_5 : ((e_cl 1).2.1 5).2.2.2 = false := by decide +kernel
set_option maxRecDepth 20000 in
theorem mlX1_71 : Cond.methodLink RX1 71 yX1_plainMean ∈ e_tbl := e_in 777 (by decide +kernel) (by decide +kernel)
set_option maxRecDepth 20000 in
theorem me_X1_oddsOfRun : e_me yX1_oddsOfRun cX1_oddsOfRun 8 (some .long) 5 := ⟨e_in 776 (by decide +kernel) (by decide +kernel), by decide, ⟨by decide +kernel, by decide +kernel⟩, by decide +kernel, e_in 101 (by decide +kernel) (by decide +kernel)⟩
set_option maxRecDepth 20000 in
theorem mlX7_221 : Cond.methodLink RX7 221 yX1_oddsOfRun ∈ e_tbl := e_in 773 (by decide +kernel) (by decide +kernel)
set_option maxRecDepth 20000 in
theorem im_X1_oddsOfRun : Cond.instanceMethod yX1_oddsOfRun ∈ e_tbl := e_in 774 (by decide +kernel) (by decide +kernel)
set_option maxRecDepth 20000 in
theorem se_X1_oddsOfRun : Cond.selects yX1_oddsOfRun.cls yX1_oddsOfRun yX1_oddsOfRun ∈ e_tbl := e_in 775 (by decide +kernel) (by decide +kernel)
set_option maxRecDepth 20000 in
theorem mlX1_99 : Cond.methodLink RX1 99 yX2_behind ∈ e_tbl := e_in 800 (by decide +kernel) (by decide +kernel)
set_option maxRecDepth 20000 in
theorem mlX1_104 : Cond.methodLink RX1 104 yX2_runsBy ∈ e_tbl := e_in 802 (by decide +kernel) (by decide +kernel)
set_option maxRecDepth 20000 in
theorem clX1_102 : Cond.constantLong RX1 102 (-1) ∈ e_tbl := e_in 801 (by decide +kernel) (by decide +kernel)
set_option maxRecDepth 20000 in
theorem fk1_109 : e_fk RX1 109 1 6 "I" := ⟨by decide, by decide, by decide +kernel, e_in 355 (by decide +kernel) (by decide +kernel)⟩
set_option maxRecDepth 20000 in
theorem me_X1_buntMean : e_me yX1_buntMean cX1_buntMean 4 (some .long) 2 := ⟨e_in 799 (by decide +kernel) (by decide +kernel), by decide, ⟨by decide +kernel, by decide +kernel⟩, by decide +kernel, e_in 101 (by decide +kernel) (by decide +kernel)⟩
set_option maxRecDepth 20000 in
theorem mlX1_146 : Cond.methodLink RX1 146 yX1_buntMean ∈ e_tbl := e_in 796 (by decide +kernel) (by decide +kernel)
set_option maxRecDepth 20000 in
theorem im_X1_buntMean : Cond.instanceMethod yX1_buntMean ∈ e_tbl := e_in 798 (by decide +kernel) (by decide +kernel)
set_option maxRecDepth 20000 in
theorem se_X1_buntMean : Cond.selects yX1_buntMean.cls yX1_buntMean yX1_buntMean ∈ e_tbl := e_in 26 (by decide +kernel) (by decide +kernel)
set_option maxRecDepth 20000 in
theorem mlX1_141 : Cond.methodLink RX1 141 Lib.MathLoose.max_long.x ∈ e_tbl := e_in 803 (by decide +kernel) (by decide +kernel)
set_option maxRecDepth 20000 in
theorem st_mmaxl : Cond.static Lib.MathLoose.max_long.x ∈ e_tbl := e_in 804 (by decide +kernel) (by decide +kernel)
set_option maxRecDepth 20000 in
theorem cd_mmaxl : Cond.code Lib.MathLoose.max_long.x Lib.MathLoose.max_long.code 4 (some .long) ∈ e_tbl := e_in 805 (by decide +kernel) (by decide +kernel)
set_option maxRecDepth 20000 in
theorem mlX1_130 : Cond.methodLink RX1 130 yX2_can ∈ e_tbl := e_in 806 (by decide +kernel) (by decide +kernel)
set_option maxRecDepth 20000 in
theorem fk1_124 : e_fk RX1 124 1 7 "I" := ⟨by decide, by decide, by decide +kernel, e_in 356 (by decide +kernel) (by decide +kernel)⟩
set_option maxRecDepth 20000 in
theorem me_X1_swingMean : e_me yX1_swingMean cX1_swingMean 3 (some .long) 2 := ⟨e_in 795 (by decide +kernel) (by decide +kernel), by decide, ⟨by decide +kernel, by decide +kernel⟩, by decide +kernel, e_in 101 (by decide +kernel) (by decide +kernel)⟩
set_option maxRecDepth 20000 in
theorem mlX1_127 : Cond.methodLink RX1 127 yX1_swingMean ∈ e_tbl := e_in 792 (by decide +kernel) (by decide +kernel)
set_option maxRecDepth 20000 in
theorem im_X1_swingMean : Cond.instanceMethod yX1_swingMean ∈ e_tbl := e_in 794 (by decide +kernel) (by decide +kernel)
set_option maxRecDepth 20000 in
theorem se_X1_swingMean : Cond.selects yX1_swingMean.cls yX1_swingMean yX1_swingMean ∈ e_tbl := e_in 25 (by decide +kernel) (by decide +kernel)
set_option maxRecDepth 20000 in
theorem me_X1_stealMean : e_me yX1_stealMean cX1_stealMean 5 (some .long) 2 := ⟨e_in 814 (by decide +kernel) (by decide +kernel), by decide, ⟨by decide +kernel, by decide +kernel⟩, by decide +kernel, e_in 101 (by decide +kernel) (by decide +kernel)⟩
set_option maxRecDepth 20000 in
theorem mlX1_137 : Cond.methodLink RX1 137 yX1_stealMean ∈ e_tbl := e_in 811 (by decide +kernel) (by decide +kernel)
set_option maxRecDepth 20000 in
theorem im_X1_stealMean : Cond.instanceMethod yX1_stealMean ∈ e_tbl := e_in 813 (by decide +kernel) (by decide +kernel)
set_option maxRecDepth 20000 in
theorem se_X1_stealMean : Cond.selects yX1_stealMean.cls yX1_stealMean yX1_stealMean ∈ e_tbl := e_in 28 (by decide +kernel) (by decide +kernel)
set_option maxRecDepth 20000 in
theorem me_X1_meanBy : e_me yX1_meanBy cX1_meanBy 5 (some .long) 2 := ⟨e_in 826 (by decide +kernel) (by decide +kernel), by decide, ⟨by decide +kernel, by decide +kernel⟩, by decide +kernel, e_in 101 (by decide +kernel) (by decide +kernel)⟩
set_option maxRecDepth 20000 in
theorem mlX1_152 : Cond.methodLink RX1 152 yX1_meanBy ∈ e_tbl := e_in 823 (by decide +kernel) (by decide +kernel)
set_option maxRecDepth 20000 in
theorem im_X1_meanBy : Cond.instanceMethod yX1_meanBy ∈ e_tbl := e_in 824 (by decide +kernel) (by decide +kernel)
set_option maxRecDepth 20000 in
theorem se_X1_meanBy : Cond.selects yX1_meanBy.cls yX1_meanBy yX1_meanBy ∈ e_tbl := e_in 825 (by decide +kernel) (by decide +kernel)
set_option maxRecDepth 20000 in
theorem me_X1_swingIn : e_me yX1_swingIn cX1_swingIn 2 (some .int) 1 := ⟨e_in 822 (by decide +kernel) (by decide +kernel), by decide, ⟨by decide +kernel, by decide +kernel⟩, by decide +kernel, e_in 101 (by decide +kernel) (by decide +kernel)⟩
set_option maxRecDepth 20000 in
theorem mlX1_149 : Cond.methodLink RX1 149 yX1_swingIn ∈ e_tbl := e_in 819 (by decide +kernel) (by decide +kernel)
set_option maxRecDepth 20000 in
theorem im_X1_swingIn : Cond.instanceMethod yX1_swingIn ∈ e_tbl := e_in 820 (by decide +kernel) (by decide +kernel)
set_option maxRecDepth 20000 in
theorem se_X1_swingIn : Cond.selects yX1_swingIn.cls yX1_swingIn yX1_swingIn ∈ e_tbl := e_in 821 (by decide +kernel) (by decide +kernel)
set_option maxRecDepth 20000 in
theorem fk1_29 : e_fk RX1 29 1 4 "[J" := ⟨by decide, by decide, by decide +kernel, e_in 353 (by decide +kernel) (by decide +kernel)⟩
set_option maxRecDepth 20000 in
theorem gr_11_4 : gR 11 4 = some 18 := rfl
set_option maxRecDepth 20000 in
theorem ar_18 : e_ar gN 18 12 25 := by unfold e_ar; decide
set_option maxRecDepth 20000 in
theorem me_X1_swingAt : e_me yX1_swingAt cX1_swingAt 2 (some .long) 1 := ⟨e_in 810 (by decide +kernel) (by decide +kernel), by decide, ⟨by decide +kernel, by decide +kernel⟩, by decide +kernel, e_in 101 (by decide +kernel) (by decide +kernel)⟩
set_option maxRecDepth 20000 in
theorem mlX1_134 : Cond.methodLink RX1 134 yX1_swingAt ∈ e_tbl := e_in 807 (by decide +kernel) (by decide +kernel)
set_option maxRecDepth 20000 in
theorem im_X1_swingAt : Cond.instanceMethod yX1_swingAt ∈ e_tbl := e_in 809 (by decide +kernel) (by decide +kernel)
set_option maxRecDepth 20000 in
theorem se_X1_swingAt : Cond.selects yX1_swingAt.cls yX1_swingAt yX1_swingAt ∈ e_tbl := e_in 27 (by decide +kernel) (by decide +kernel)
set_option maxRecDepth 20000 in
theorem fk1_118 : e_fk RX1 118 0 5 "I" := ⟨by decide, by decide, by decide +kernel, e_in 264 (by decide +kernel) (by decide +kernel)⟩
set_option maxRecDepth 20000 in
theorem me_X1_fillWiseRow : e_me yX1_fillWiseRow cX1_fillWiseRow 9 none 1 := ⟨e_in 791 (by decide +kernel) (by decide +kernel), by decide, ⟨by decide +kernel, by decide +kernel⟩, by decide +kernel, e_in 101 (by decide +kernel) (by decide +kernel)⟩
set_option maxRecDepth 20000 in
theorem mlX1_121 : Cond.methodLink RX1 121 yX1_fillWiseRow ∈ e_tbl := e_in 788 (by decide +kernel) (by decide +kernel)
set_option maxRecDepth 20000 in
theorem im_X1_fillWiseRow : Cond.instanceMethod yX1_fillWiseRow ∈ e_tbl := e_in 790 (by decide +kernel) (by decide +kernel)
set_option maxRecDepth 20000 in
theorem se_X1_fillWiseRow : Cond.selects yX1_fillWiseRow.cls yX1_fillWiseRow yX1_fillWiseRow ∈ e_tbl := e_in 24 (by decide +kernel) (by decide +kernel)
set_option maxRecDepth 20000 in
theorem clX1_107 : Cond.constantLong RX1 107 (400) ∈ e_tbl := e_in 786 (by decide +kernel) (by decide +kernel)
set_option maxRecDepth 20000 in
theorem ff1_6 : ((e_cl 1).2.1 6).2.2.2 = false := by decide +kernel
set_option maxRecDepth 20000 in
theorem fk1_112 : e_fk RX1 112 0 4 "I" := ⟨by decide, by decide, by decide +kernel, e_in 260 (by decide +kernel) (by decide +kernel)⟩
set_option maxRecDepth 20000 in
theorem mlX1_115 : Cond.methodLink RX1 115 yX0_placeOf ∈ e_tbl := e_in 787 (by decide +kernel) (by decide +kernel)
set_option maxRecDepth 20000 in
theorem ff1_7 : ((e_cl 1).2.1 7).2.2.2 = false := by decide +kernel
set_option maxRecDepth 20000 in
theorem me_X1_lookAhead : e_me yX1_lookAhead cX1_lookAhead 6 none 3 := ⟨e_in 785 (by decide +kernel) (by decide +kernel), by decide, ⟨by decide +kernel, by decide +kernel⟩, by decide +kernel, e_in 101 (by decide +kernel) (by decide +kernel)⟩
set_option maxRecDepth 20000 in
theorem mlX7_224 : Cond.methodLink RX7 224 yX1_lookAhead ∈ e_tbl := e_in 782 (by decide +kernel) (by decide +kernel)
set_option maxRecDepth 20000 in
theorem im_X1_lookAhead : Cond.instanceMethod yX1_lookAhead ∈ e_tbl := e_in 783 (by decide +kernel) (by decide +kernel)
set_option maxRecDepth 20000 in
theorem se_X1_lookAhead : Cond.selects yX1_lookAhead.cls yX1_lookAhead yX1_lookAhead ∈ e_tbl := e_in 784 (by decide +kernel) (by decide +kernel)
set_option maxRecDepth 20000 in
theorem me_X1_choiceIn : e_me yX1_choiceIn cX1_choiceIn 3 (some .int) 1 := ⟨e_in 818 (by decide +kernel) (by decide +kernel), by decide, ⟨by decide +kernel, by decide +kernel⟩, by decide +kernel, e_in 101 (by decide +kernel) (by decide +kernel)⟩
set_option maxRecDepth 20000 in
theorem mlX7_228 : Cond.methodLink RX7 228 yX1_choiceIn ∈ e_tbl := e_in 815 (by decide +kernel) (by decide +kernel)
set_option maxRecDepth 20000 in
theorem im_X1_choiceIn : Cond.instanceMethod yX1_choiceIn ∈ e_tbl := e_in 816 (by decide +kernel) (by decide +kernel)
set_option maxRecDepth 20000 in
theorem se_X1_choiceIn : Cond.selects yX1_choiceIn.cls yX1_choiceIn yX1_choiceIn ∈ e_tbl := e_in 817 (by decide +kernel) (by decide +kernel)
set_option maxRecDepth 20000 in
theorem mlX7_231 : Cond.methodLink RX7 231 yX1_meanBy ∈ e_tbl := e_in 827 (by decide +kernel) (by decide +kernel)
set_option maxRecDepth 20000 in
theorem mlX2_65 : Cond.methodLink RX2 65 yX2_can ∈ e_tbl := e_in 844 (by decide +kernel) (by decide +kernel)
set_option maxRecDepth 20000 in
theorem me_X2_canChoose : e_me yX2_canChoose cX2_canChoose 3 (some .boolean) 2 := ⟨e_in 843 (by decide +kernel) (by decide +kernel), by decide, ⟨by decide +kernel, by decide +kernel⟩, by decide +kernel, e_in 102 (by decide +kernel) (by decide +kernel)⟩
set_option maxRecDepth 20000 in
theorem mlX7_249 : Cond.methodLink RX7 249 yX2_canChoose ∈ e_tbl := e_in 840 (by decide +kernel) (by decide +kernel)
set_option maxRecDepth 20000 in
theorem im_X2_canChoose : Cond.instanceMethod yX2_canChoose ∈ e_tbl := e_in 841 (by decide +kernel) (by decide +kernel)
set_option maxRecDepth 20000 in
theorem se_X2_canChoose : Cond.selects yX2_canChoose.cls yX2_canChoose yX2_canChoose ∈ e_tbl := e_in 842 (by decide +kernel) (by decide +kernel)
set_option maxRecDepth 20000 in
theorem me_X7_troubleOfWay : e_me yX7_troubleOfWay cX7_troubleOfWay 7 (some .int) 5 := ⟨e_in 839 (by decide +kernel) (by decide +kernel), by decide, ⟨by decide +kernel, by decide +kernel⟩, by decide +kernel, e_in 93 (by decide +kernel) (by decide +kernel)⟩
set_option maxRecDepth 20000 in
theorem mlX7_235 : Cond.methodLink RX7 235 yX7_troubleOfWay ∈ e_tbl := e_in 836 (by decide +kernel) (by decide +kernel)
set_option maxRecDepth 20000 in
theorem im_X7_troubleOfWay : Cond.instanceMethod yX7_troubleOfWay ∈ e_tbl := e_in 838 (by decide +kernel) (by decide +kernel)
set_option maxRecDepth 20000 in
theorem se_X7_troubleOfWay : Cond.selects yX7_troubleOfWay.cls yX7_troubleOfWay yX7_troubleOfWay ∈ e_tbl := e_in 29 (by decide +kernel) (by decide +kernel)
set_option maxRecDepth 20000 in
theorem fk1_75 : e_fk RX1 75 0 0 "I" := ⟨by decide, by decide, by decide +kernel, e_in 248 (by decide +kernel) (by decide +kernel)⟩
set_option maxRecDepth 20000 in
theorem me_X1_layTable : e_me yX1_layTable cX1_layTable 5 none 2 := ⟨e_in 856 (by decide +kernel) (by decide +kernel), by decide, ⟨by decide +kernel, by decide +kernel⟩, by decide +kernel, e_in 101 (by decide +kernel) (by decide +kernel)⟩
set_option maxRecDepth 20000 in
theorem mlX7_239 : Cond.methodLink RX7 239 yX1_layTable ∈ e_tbl := e_in 853 (by decide +kernel) (by decide +kernel)
set_option maxRecDepth 20000 in
theorem im_X1_layTable : Cond.instanceMethod yX1_layTable ∈ e_tbl := e_in 854 (by decide +kernel) (by decide +kernel)
set_option maxRecDepth 20000 in
theorem se_X1_layTable : Cond.selects yX1_layTable.cls yX1_layTable yX1_layTable ∈ e_tbl := e_in 855 (by decide +kernel) (by decide +kernel)
set_option maxRecDepth 20000 in
theorem me_X1_tableAt : e_me yX1_tableAt cX1_tableAt 3 (some .long) 2 := ⟨e_in 860 (by decide +kernel) (by decide +kernel), by decide, ⟨by decide +kernel, by decide +kernel⟩, by decide +kernel, e_in 101 (by decide +kernel) (by decide +kernel)⟩
set_option maxRecDepth 20000 in
theorem mlX7_243 : Cond.methodLink RX7 243 yX1_tableAt ∈ e_tbl := e_in 857 (by decide +kernel) (by decide +kernel)
set_option maxRecDepth 20000 in
theorem im_X1_tableAt : Cond.instanceMethod yX1_tableAt ∈ e_tbl := e_in 858 (by decide +kernel) (by decide +kernel)
set_option maxRecDepth 20000 in
theorem se_X1_tableAt : Cond.selects yX1_tableAt.cls yX1_tableAt yX1_tableAt ∈ e_tbl := e_in 859 (by decide +kernel) (by decide +kernel)
set_option maxRecDepth 20000 in
theorem mlX3_18 : Cond.methodLink RX3 18 yX1_plainMean ∈ e_tbl := e_in 873 (by decide +kernel) (by decide +kernel)
set_option maxRecDepth 20000 in
theorem me_X7_troubleOfDepth : e_me yX7_troubleOfDepth cX7_troubleOfDepth 4 (some .int) 3 := ⟨e_in 868 (by decide +kernel) (by decide +kernel), by decide, ⟨by decide +kernel, by decide +kernel⟩, by decide +kernel, e_in 93 (by decide +kernel) (by decide +kernel)⟩
set_option maxRecDepth 20000 in
theorem mlX7_252 : Cond.methodLink RX7 252 yX7_troubleOfDepth ∈ e_tbl := e_in 865 (by decide +kernel) (by decide +kernel)
set_option maxRecDepth 20000 in
theorem im_X7_troubleOfDepth : Cond.instanceMethod yX7_troubleOfDepth ∈ e_tbl := e_in 867 (by decide +kernel) (by decide +kernel)
set_option maxRecDepth 20000 in
theorem se_X7_troubleOfDepth : Cond.selects yX7_troubleOfDepth.cls yX7_troubleOfDepth yX7_troubleOfDepth ∈ e_tbl := e_in 30 (by decide +kernel) (by decide +kernel)
set_option maxRecDepth 20000 in
theorem fk7_47 : e_fk RX7 47 7 6 "LRunWorth$Orders;" := ⟨by decide, by decide, by decide +kernel, e_in 411 (by decide +kernel) (by decide +kernel)⟩
set_option maxRecDepth 20000 in
theorem gr_0_6 : gR 0 6 = some 19 := rfl
set_option maxRecDepth 20000 in
theorem me_X3_worthNow : e_me yX3_worthNow cX3_worthNow 4 (some .long) 3 := ⟨e_in 872 (by decide +kernel) (by decide +kernel), by decide, ⟨by decide +kernel, by decide +kernel⟩, by decide +kernel, e_in 103 (by decide +kernel) (by decide +kernel)⟩
set_option maxRecDepth 20000 in
theorem mlX7_256 : Cond.methodLink RX7 256 yX3_worthNow ∈ e_tbl := e_in 869 (by decide +kernel) (by decide +kernel)
set_option maxRecDepth 20000 in
theorem im_X3_worthNow : Cond.instanceMethod yX3_worthNow ∈ e_tbl := e_in 870 (by decide +kernel) (by decide +kernel)
set_option maxRecDepth 20000 in
theorem se_X3_worthNow : Cond.selects yX3_worthNow.cls yX3_worthNow yX3_worthNow ∈ e_tbl := e_in 871 (by decide +kernel) (by decide +kernel)
set_option maxRecDepth 20000 in
theorem at_19 : e_at gN 19 3 := by unfold e_at; decide
set_option maxRecDepth 20000 in
theorem fk3_48 : e_fk RX3 48 3 3 "J" := ⟨by decide, by decide, by decide +kernel, e_in 384 (by decide +kernel) (by decide +kernel)⟩
set_option maxRecDepth 20000 in
theorem ff3_3 : ((e_cl 3).2.1 3).2.2.2 = false := by decide +kernel
set_option maxRecDepth 20000 in
theorem fk3_52 : e_fk RX3 52 3 2 "I" := ⟨by decide, by decide, by decide +kernel, e_in 383 (by decide +kernel) (by decide +kernel)⟩
set_option maxRecDepth 20000 in
theorem ff3_2 : ((e_cl 3).2.1 2).2.2.2 = false := by decide +kernel
set_option maxRecDepth 20000 in
theorem fk3_9 : e_fk RX3 9 3 0 "[I" := ⟨by decide, by decide, by decide +kernel, e_in 381 (by decide +kernel) (by decide +kernel)⟩
set_option maxRecDepth 20000 in
theorem gr_19_0 : gR 19 0 = some 20 := rfl
set_option maxRecDepth 20000 in
theorem ar_20 : e_ar gN 20 9 3 := by unfold e_ar; decide
set_option maxRecDepth 20000 in
theorem fk3_15 : e_fk RX3 15 3 1 "[I" := ⟨by decide, by decide, by decide +kernel, e_in 382 (by decide +kernel) (by decide +kernel)⟩
set_option maxRecDepth 20000 in
theorem gr_19_1 : gR 19 1 = some 21 := rfl
set_option maxRecDepth 20000 in
theorem ar_21 : e_ar gN 21 9 9 := by unfold e_ar; decide
set_option maxRecDepth 20000 in
theorem me_X3_isPicked : e_me yX3_isPicked cX3_isPicked 4 (some .boolean) 2 := ⟨e_in 908 (by decide +kernel) (by decide +kernel), by decide, ⟨by decide +kernel, by decide +kernel⟩, by decide +kernel, e_in 103 (by decide +kernel) (by decide +kernel)⟩
set_option maxRecDepth 20000 in
theorem mlX3_94 : Cond.methodLink RX3 94 yX3_isPicked ∈ e_tbl := e_in 905 (by decide +kernel) (by decide +kernel)
set_option maxRecDepth 20000 in
theorem im_X3_isPicked : Cond.instanceMethod yX3_isPicked ∈ e_tbl := e_in 907 (by decide +kernel) (by decide +kernel)
set_option maxRecDepth 20000 in
theorem se_X3_isPicked : Cond.selects yX3_isPicked.cls yX3_isPicked yX3_isPicked ∈ e_tbl := e_in 35 (by decide +kernel) (by decide +kernel)
set_option maxRecDepth 20000 in
theorem mlX3_88 : Cond.methodLink RX3 88 Lib.Math.min.name ∈ e_tbl := e_in 904 (by decide +kernel) (by decide +kernel)
set_option maxRecDepth 20000 in
theorem mlX3_69 : Cond.methodLink RX3 69 yX1_sendUp ∈ e_tbl := e_in 889 (by decide +kernel) (by decide +kernel)
set_option maxRecDepth 20000 in
theorem mlX3_84 : Cond.methodLink RX3 84 yX1_fillRow ∈ e_tbl := e_in 890 (by decide +kernel) (by decide +kernel)
set_option maxRecDepth 20000 in
theorem me_X3_reckon : e_me yX3_reckon cX3_reckon 6 none 5 := ⟨e_in 888 (by decide +kernel) (by decide +kernel), by decide, ⟨by decide +kernel, by decide +kernel⟩, by decide +kernel, e_in 103 (by decide +kernel) (by decide +kernel)⟩
set_option maxRecDepth 20000 in
theorem mlX3_61 : Cond.methodLink RX3 61 yX3_reckon ∈ e_tbl := e_in 885 (by decide +kernel) (by decide +kernel)
set_option maxRecDepth 20000 in
theorem im_X3_reckon : Cond.instanceMethod yX3_reckon ∈ e_tbl := e_in 887 (by decide +kernel) (by decide +kernel)
set_option maxRecDepth 20000 in
theorem se_X3_reckon : Cond.selects yX3_reckon.cls yX3_reckon yX3_reckon ∈ e_tbl := e_in 31 (by decide +kernel) (by decide +kernel)
set_option maxRecDepth 20000 in
theorem me_X3_fit : e_me yX3_fit cX3_fit 5 (some .boolean) 4 := ⟨e_in 894 (by decide +kernel) (by decide +kernel), by decide, ⟨by decide +kernel, by decide +kernel⟩, by decide +kernel, e_in 103 (by decide +kernel) (by decide +kernel)⟩
set_option maxRecDepth 20000 in
theorem mlX3_65 : Cond.methodLink RX3 65 yX3_fit ∈ e_tbl := e_in 891 (by decide +kernel) (by decide +kernel)
set_option maxRecDepth 20000 in
theorem im_X3_fit : Cond.instanceMethod yX3_fit ∈ e_tbl := e_in 893 (by decide +kernel) (by decide +kernel)
set_option maxRecDepth 20000 in
theorem se_X3_fit : Cond.selects yX3_fit.cls yX3_fit yX3_fit ∈ e_tbl := e_in 32 (by decide +kernel) (by decide +kernel)
set_option maxRecDepth 20000 in
theorem mlX3_73 : Cond.methodLink RX3 73 yX1_hitMean ∈ e_tbl := e_in 895 (by decide +kernel) (by decide +kernel)
set_option maxRecDepth 20000 in
theorem me_X3_compare : e_me yX3_compare cX3_compare 7 none 4 := ⟨e_in 899 (by decide +kernel) (by decide +kernel), by decide, ⟨by decide +kernel, by decide +kernel⟩, by decide +kernel, e_in 103 (by decide +kernel) (by decide +kernel)⟩
set_option maxRecDepth 20000 in
theorem mlX3_77 : Cond.methodLink RX3 77 yX3_compare ∈ e_tbl := e_in 896 (by decide +kernel) (by decide +kernel)
set_option maxRecDepth 20000 in
theorem im_X3_compare : Cond.instanceMethod yX3_compare ∈ e_tbl := e_in 898 (by decide +kernel) (by decide +kernel)
set_option maxRecDepth 20000 in
theorem se_X3_compare : Cond.selects yX3_compare.cls yX3_compare yX3_compare ∈ e_tbl := e_in 33 (by decide +kernel) (by decide +kernel)
set_option maxRecDepth 20000 in
theorem fk3_34 : e_fk RX3 34 0 0 "I" := ⟨by decide, by decide, by decide +kernel, e_in 247 (by decide +kernel) (by decide +kernel)⟩
set_option maxRecDepth 20000 in
theorem clX3_46 : Cond.constantLong RX3 46 (-1) ∈ e_tbl := e_in 882 (by decide +kernel) (by decide +kernel)
set_option maxRecDepth 20000 in
theorem clX3_55 : Cond.constantLong RX3 55 (20) ∈ e_tbl := e_in 883 (by decide +kernel) (by decide +kernel)
set_option maxRecDepth 20000 in
theorem mlX3_57 : Cond.methodLink RX3 57 yX1_scaleBy ∈ e_tbl := e_in 884 (by decide +kernel) (by decide +kernel)
set_option maxRecDepth 20000 in
theorem me_X3_layFound : e_me yX3_layFound cX3_layFound 7 none 2 := ⟨e_in 903 (by decide +kernel) (by decide +kernel), by decide, ⟨by decide +kernel, by decide +kernel⟩, by decide +kernel, e_in 103 (by decide +kernel) (by decide +kernel)⟩
set_option maxRecDepth 20000 in
theorem mlX3_81 : Cond.methodLink RX3 81 yX3_layFound ∈ e_tbl := e_in 900 (by decide +kernel) (by decide +kernel)
set_option maxRecDepth 20000 in
theorem im_X3_layFound : Cond.instanceMethod yX3_layFound ∈ e_tbl := e_in 902 (by decide +kernel) (by decide +kernel)
set_option maxRecDepth 20000 in
theorem se_X3_layFound : Cond.selects yX3_layFound.cls yX3_layFound yX3_layFound ∈ e_tbl := e_in 34 (by decide +kernel) (by decide +kernel)
set_option maxRecDepth 20000 in
theorem me_X3_seek : e_me yX3_seek cX3_seek 8 none 3 := ⟨e_in 881 (by decide +kernel) (by decide +kernel), by decide, ⟨by decide +kernel, by decide +kernel⟩, by decide +kernel, e_in 103 (by decide +kernel) (by decide +kernel)⟩
set_option maxRecDepth 20000 in
theorem mlX7_260 : Cond.methodLink RX7 260 yX3_seek ∈ e_tbl := e_in 878 (by decide +kernel) (by decide +kernel)
set_option maxRecDepth 20000 in
theorem im_X3_seek : Cond.instanceMethod yX3_seek ∈ e_tbl := e_in 879 (by decide +kernel) (by decide +kernel)
set_option maxRecDepth 20000 in
theorem se_X3_seek : Cond.selects yX3_seek.cls yX3_seek yX3_seek ∈ e_tbl := e_in 880 (by decide +kernel) (by decide +kernel)
set_option maxRecDepth 20000 in
theorem fk7_264 : e_fk RX7 264 3 3 "J" := ⟨by decide, by decide, by decide +kernel, e_in 385 (by decide +kernel) (by decide +kernel)⟩
set_option maxRecDepth 20000 in
theorem me_X3_foundAt : e_me yX3_foundAt cX3_foundAt 2 (some .int) 1 := ⟨e_in 916 (by decide +kernel) (by decide +kernel), by decide, ⟨by decide +kernel, by decide +kernel⟩, by decide +kernel, e_in 103 (by decide +kernel) (by decide +kernel)⟩
set_option maxRecDepth 20000 in
theorem mlX7_268 : Cond.methodLink RX7 268 yX3_foundAt ∈ e_tbl := e_in 913 (by decide +kernel) (by decide +kernel)
set_option maxRecDepth 20000 in
theorem im_X3_foundAt : Cond.instanceMethod yX3_foundAt ∈ e_tbl := e_in 914 (by decide +kernel) (by decide +kernel)
set_option maxRecDepth 20000 in
theorem se_X3_foundAt : Cond.selects yX3_foundAt.cls yX3_foundAt yX3_foundAt ∈ e_tbl := e_in 915 (by decide +kernel) (by decide +kernel)
set_option maxRecDepth 20000 in
theorem me_X0_putAt : e_me yX0_putAt cX0_putAt 3 none 2 := ⟨e_in 933 (by decide +kernel) (by decide +kernel), by decide, ⟨by decide +kernel, by decide +kernel⟩, by decide +kernel, e_in 99 (by decide +kernel) (by decide +kernel)⟩
set_option maxRecDepth 20000 in
theorem mlX0_71 : Cond.methodLink RX0 71 yX0_putAt ∈ e_tbl := e_in 930 (by decide +kernel) (by decide +kernel)
set_option maxRecDepth 20000 in
theorem im_X0_putAt : Cond.instanceMethod yX0_putAt ∈ e_tbl := e_in 931 (by decide +kernel) (by decide +kernel)
set_option maxRecDepth 20000 in
theorem se_X0_putAt : Cond.selects yX0_putAt.cls yX0_putAt yX0_putAt ∈ e_tbl := e_in 932 (by decide +kernel) (by decide +kernel)
set_option maxRecDepth 20000 in
theorem me_X0_exchange : e_me yX0_exchange cX0_exchange 4 none 2 := ⟨e_in 929 (by decide +kernel) (by decide +kernel), by decide, ⟨by decide +kernel, by decide +kernel⟩, by decide +kernel, e_in 99 (by decide +kernel) (by decide +kernel)⟩
set_option maxRecDepth 20000 in
theorem mlX3_24 : Cond.methodLink RX3 24 yX0_exchange ∈ e_tbl := e_in 926 (by decide +kernel) (by decide +kernel)
set_option maxRecDepth 20000 in
theorem im_X0_exchange : Cond.instanceMethod yX0_exchange ∈ e_tbl := e_in 927 (by decide +kernel) (by decide +kernel)
set_option maxRecDepth 20000 in
theorem se_X0_exchange : Cond.selects yX0_exchange.cls yX0_exchange yX0_exchange ∈ e_tbl := e_in 928 (by decide +kernel) (by decide +kernel)
set_option maxRecDepth 20000 in
theorem me_X3_worthExchanged : e_me yX3_worthExchanged cX3_worthExchanged 8 (some .long) 5 := ⟨e_in 925 (by decide +kernel) (by decide +kernel), by decide, ⟨by decide +kernel, by decide +kernel⟩, by decide +kernel, e_in 103 (by decide +kernel) (by decide +kernel)⟩
set_option maxRecDepth 20000 in
theorem mlX7_271 : Cond.methodLink RX7 271 yX3_worthExchanged ∈ e_tbl := e_in 922 (by decide +kernel) (by decide +kernel)
set_option maxRecDepth 20000 in
theorem im_X3_worthExchanged : Cond.instanceMethod yX3_worthExchanged ∈ e_tbl := e_in 923 (by decide +kernel) (by decide +kernel)
set_option maxRecDepth 20000 in
theorem se_X3_worthExchanged : Cond.selects yX3_worthExchanged.cls yX3_worthExchanged yX3_worthExchanged ∈ e_tbl := e_in 924 (by decide +kernel) (by decide +kernel)
set_option maxRecDepth 20000 in
theorem mlX7_278 : Cond.methodLink RX7 278 yX0_noted ∈ e_tbl := e_in 939 (by decide +kernel) (by decide +kernel)
set_option maxRecDepth 20000 in
theorem mlX7_275 : Cond.methodLink RX7 275 yX0_hasRow ∈ e_tbl := e_in 938 (by decide +kernel) (by decide +kernel)
set_option maxRecDepth 20000 in
theorem mlX1_79 : Cond.methodLink RX1 79 yX0_noted ∈ e_tbl := e_in 948 (by decide +kernel) (by decide +kernel)
set_option maxRecDepth 20000 in
theorem mlX1_82 : Cond.methodLink RX1 82 yX1_unit ∈ e_tbl := e_in 949 (by decide +kernel) (by decide +kernel)
set_option maxRecDepth 20000 in
theorem mlX1_86 : Cond.methodLink RX1 86 yX1_tableAt ∈ e_tbl := e_in 950 (by decide +kernel) (by decide +kernel)
set_option maxRecDepth 20000 in
theorem me_X1_addedBy : e_me yX1_addedBy cX1_addedBy 6 (some .long) 3 := ⟨e_in 947 (by decide +kernel) (by decide +kernel), by decide, ⟨by decide +kernel, by decide +kernel⟩, by decide +kernel, e_in 101 (by decide +kernel) (by decide +kernel)⟩
set_option maxRecDepth 20000 in
theorem mlX7_281 : Cond.methodLink RX7 281 yX1_addedBy ∈ e_tbl := e_in 944 (by decide +kernel) (by decide +kernel)
set_option maxRecDepth 20000 in
theorem im_X1_addedBy : Cond.instanceMethod yX1_addedBy ∈ e_tbl := e_in 945 (by decide +kernel) (by decide +kernel)
set_option maxRecDepth 20000 in
theorem se_X1_addedBy : Cond.selects yX1_addedBy.cls yX1_addedBy yX1_addedBy ∈ e_tbl := e_in 946 (by decide +kernel) (by decide +kernel)
set_option maxRecDepth 20000 in
theorem me_X7_addedTogether : e_me yX7_addedTogether cX7_addedTogether 6 (some .long) 2 := ⟨e_in 958 (by decide +kernel) (by decide +kernel), by decide, ⟨by decide +kernel, by decide +kernel⟩, by decide +kernel, e_in 93 (by decide +kernel) (by decide +kernel)⟩
set_option maxRecDepth 20000 in
theorem mlX7_285 : Cond.methodLink RX7 285 yX7_addedTogether ∈ e_tbl := e_in 955 (by decide +kernel) (by decide +kernel)
set_option maxRecDepth 20000 in
theorem im_X7_addedTogether : Cond.instanceMethod yX7_addedTogether ∈ e_tbl := e_in 957 (by decide +kernel) (by decide +kernel)
set_option maxRecDepth 20000 in
theorem se_X7_addedTogether : Cond.selects yX7_addedTogether.cls yX7_addedTogether yX7_addedTogether ∈ e_tbl := e_in 36 (by decide +kernel) (by decide +kernel)
set_option maxRecDepth 20000 in
theorem cnX7_311 : Cond.constant RX7 311 (2147483646) ∈ e_tbl := e_in 971 (by decide +kernel) (by decide +kernel)
set_option maxRecDepth 20000 in
theorem mlX0_93 : Cond.methodLink RX0 93 yX2_runsBy ∈ e_tbl := e_in 999 (by decide +kernel) (by decide +kernel)
set_option maxRecDepth 20000 in
theorem mlX0_98 : Cond.methodLink RX0 98 yX2_behind ∈ e_tbl := e_in 1000 (by decide +kernel) (by decide +kernel)
set_option maxRecDepth 20000 in
theorem me_X0_note : e_me yX0_note cX0_note 5 none 3 := ⟨e_in 1004 (by decide +kernel) (by decide +kernel), by decide, ⟨by decide +kernel, by decide +kernel⟩, by decide +kernel, e_in 99 (by decide +kernel) (by decide +kernel)⟩
set_option maxRecDepth 20000 in
theorem mlX0_101 : Cond.methodLink RX0 101 yX0_note ∈ e_tbl := e_in 1001 (by decide +kernel) (by decide +kernel)
set_option maxRecDepth 20000 in
theorem im_X0_note : Cond.instanceMethod yX0_note ∈ e_tbl := e_in 1003 (by decide +kernel) (by decide +kernel)
set_option maxRecDepth 20000 in
theorem se_X0_note : Cond.selects yX0_note.cls yX0_note yX0_note ∈ e_tbl := e_in 39 (by decide +kernel) (by decide +kernel)
set_option maxRecDepth 20000 in
theorem mlX0_105 : Cond.methodLink RX0 105 yX0_batterBehind ∈ e_tbl := e_in 1005 (by decide +kernel) (by decide +kernel)
set_option maxRecDepth 20000 in
theorem clX5_15 : Cond.constantLong RX5 15 (16807) ∈ e_tbl := e_in 992 (by decide +kernel) (by decide +kernel)
set_option maxRecDepth 20000 in
theorem fk5_9 : e_fk RX5 9 5 0 "J" := ⟨by decide, by decide, by decide +kernel, e_in 401 (by decide +kernel) (by decide +kernel)⟩
set_option maxRecDepth 20000 in
theorem at_22 : e_at gN 22 5 := by unfold e_at; decide
set_option maxRecDepth 20000 in
theorem clX5_17 : Cond.constantLong RX5 17 (2147483647) ∈ e_tbl := e_in 993 (by decide +kernel) (by decide +kernel)
set_option maxRecDepth 20000 in
theorem ff5_0 : ((e_cl 5).2.1 0).2.2.2 = false := by decide +kernel
set_option maxRecDepth 20000 in
theorem clX5_19 : Cond.constantLong RX5 19 (20) ∈ e_tbl := e_in 994 (by decide +kernel) (by decide +kernel)
set_option maxRecDepth 20000 in
theorem fk5_62 : e_fk RX5 62 0 4 "I" := ⟨by decide, by decide, by decide +kernel, e_in 258 (by decide +kernel) (by decide +kernel)⟩
set_option maxRecDepth 20000 in
theorem fk5_65 : e_fk RX5 65 0 5 "I" := ⟨by decide, by decide, by decide +kernel, e_in 262 (by decide +kernel) (by decide +kernel)⟩
set_option maxRecDepth 20000 in
theorem mlX5_68 : Cond.methodLink RX5 68 yX0_tiredChance ∈ e_tbl := e_in 1011 (by decide +kernel) (by decide +kernel)
set_option maxRecDepth 20000 in
theorem me_X5_drawTwentieth : e_me yX5_drawTwentieth cX5_drawTwentieth 1 (some .int) 0 := ⟨e_in 991 (by decide +kernel) (by decide +kernel), by decide, ⟨by decide +kernel, by decide +kernel⟩, by decide +kernel, e_in 104 (by decide +kernel) (by decide +kernel)⟩
set_option maxRecDepth 20000 in
theorem mlX5_47 : Cond.methodLink RX5 47 yX5_drawTwentieth ∈ e_tbl := e_in 988 (by decide +kernel) (by decide +kernel)
set_option maxRecDepth 20000 in
theorem im_X5_drawTwentieth : Cond.instanceMethod yX5_drawTwentieth ∈ e_tbl := e_in 990 (by decide +kernel) (by decide +kernel)
set_option maxRecDepth 20000 in
theorem se_X5_drawTwentieth : Cond.selects yX5_drawTwentieth.cls yX5_drawTwentieth yX5_drawTwentieth ∈ e_tbl := e_in 38 (by decide +kernel) (by decide +kernel)
set_option maxRecDepth 20000 in
theorem fk5_40 : e_fk RX5 40 0 1 "I" := ⟨by decide, by decide, by decide +kernel, e_in 250 (by decide +kernel) (by decide +kernel)⟩
set_option maxRecDepth 20000 in
theorem fk5_43 : e_fk RX5 43 1 0 "LRunWorth$Moves;" := ⟨by decide, by decide, by decide +kernel, e_in 348 (by decide +kernel) (by decide +kernel)⟩
set_option maxRecDepth 20000 in
theorem mlX5_21 : Cond.methodLink RX5 21 yX0_ruled ∈ e_tbl := e_in 985 (by decide +kernel) (by decide +kernel)
set_option maxRecDepth 20000 in
theorem me_X0_happen : e_me yX0_happen cX0_happen 5 (some .int) 2 := ⟨e_in 998 (by decide +kernel) (by decide +kernel), by decide, ⟨by decide +kernel, by decide +kernel⟩, by decide +kernel, e_in 99 (by decide +kernel) (by decide +kernel)⟩
set_option maxRecDepth 20000 in
theorem mlX5_51 : Cond.methodLink RX5 51 yX0_happen ∈ e_tbl := e_in 995 (by decide +kernel) (by decide +kernel)
set_option maxRecDepth 20000 in
theorem im_X0_happen : Cond.instanceMethod yX0_happen ∈ e_tbl := e_in 996 (by decide +kernel) (by decide +kernel)
set_option maxRecDepth 20000 in
theorem se_X0_happen : Cond.selects yX0_happen.cls yX0_happen yX0_happen ∈ e_tbl := e_in 997 (by decide +kernel) (by decide +kernel)
set_option maxRecDepth 20000 in
theorem fk5_33 : e_fk RX5 33 0 2 "I" := ⟨by decide, by decide, by decide +kernel, e_in 253 (by decide +kernel) (by decide +kernel)⟩
set_option maxRecDepth 20000 in
theorem mlX5_55 : Cond.methodLink RX5 55 yX1_swingIn ∈ e_tbl := e_in 1006 (by decide +kernel) (by decide +kernel)
set_option maxRecDepth 20000 in
theorem me_X5_drawHit : e_me yX5_drawHit cX5_drawHit 4 (some .int) 1 := ⟨e_in 1010 (by decide +kernel) (by decide +kernel), by decide, ⟨by decide +kernel, by decide +kernel⟩, by decide +kernel, e_in 104 (by decide +kernel) (by decide +kernel)⟩
set_option maxRecDepth 20000 in
theorem mlX5_58 : Cond.methodLink RX5 58 yX5_drawHit ∈ e_tbl := e_in 1007 (by decide +kernel) (by decide +kernel)
set_option maxRecDepth 20000 in
theorem im_X5_drawHit : Cond.instanceMethod yX5_drawHit ∈ e_tbl := e_in 1009 (by decide +kernel) (by decide +kernel)
set_option maxRecDepth 20000 in
theorem se_X5_drawHit : Cond.selects yX5_drawHit.cls yX5_drawHit yX5_drawHit ∈ e_tbl := e_in 40 (by decide +kernel) (by decide +kernel)
set_option maxRecDepth 20000 in
theorem mlX5_27 : Cond.methodLink RX5 27 yX1_lookAhead ∈ e_tbl := e_in 986 (by decide +kernel) (by decide +kernel)
set_option maxRecDepth 20000 in
theorem mlX5_37 : Cond.methodLink RX5 37 yX1_choiceIn ∈ e_tbl := e_in 987 (by decide +kernel) (by decide +kernel)
set_option maxRecDepth 20000 in
theorem fk7_27 : e_fk RX7 27 7 3 "LRunWorth$Game;" := ⟨by decide, by decide, by decide +kernel, e_in 408 (by decide +kernel) (by decide +kernel)⟩
set_option maxRecDepth 20000 in
theorem gr_0_3 : gR 0 3 = some 28 := rfl
set_option maxRecDepth 20000 in
theorem at_28 : e_at gN 28 0 := by unfold e_at; decide
set_option maxRecDepth 20000 in
theorem fk7_54 : e_fk RX7 54 7 7 "LRunWorth$Player;" := ⟨by decide, by decide, by decide +kernel, e_in 412 (by decide +kernel) (by decide +kernel)⟩
set_option maxRecDepth 20000 in
theorem gr_0_7 : gR 0 7 = some 22 := rfl
set_option maxRecDepth 20000 in
theorem me_X5_playOne : e_me yX5_playOne cX5_playOne 6 (some .int) 3 := ⟨e_in 984 (by decide +kernel) (by decide +kernel), by decide, ⟨by decide +kernel, by decide +kernel⟩, by decide +kernel, e_in 104 (by decide +kernel) (by decide +kernel)⟩
set_option maxRecDepth 20000 in
theorem mlX7_302 : Cond.methodLink RX7 302 yX5_playOne ∈ e_tbl := e_in 981 (by decide +kernel) (by decide +kernel)
set_option maxRecDepth 20000 in
theorem im_X5_playOne : Cond.instanceMethod yX5_playOne ∈ e_tbl := e_in 982 (by decide +kernel) (by decide +kernel)
set_option maxRecDepth 20000 in
theorem se_X5_playOne : Cond.selects yX5_playOne.cls yX5_playOne yX5_playOne ∈ e_tbl := e_in 983 (by decide +kernel) (by decide +kernel)
set_option maxRecDepth 20000 in
theorem mlX7_306 : Cond.methodLink RX7 306 Lib.Math.max.name ∈ e_tbl := e_in 1012 (by decide +kernel) (by decide +kernel)
set_option maxRecDepth 20000 in
theorem me_X7_troubleOfPlay : e_me yX7_troubleOfPlay cX7_troubleOfPlay 4 (some .int) 3 := ⟨e_in 970 (by decide +kernel) (by decide +kernel), by decide, ⟨by decide +kernel, by decide +kernel⟩, by decide +kernel, e_in 93 (by decide +kernel) (by decide +kernel)⟩
set_option maxRecDepth 20000 in
theorem mlX7_288 : Cond.methodLink RX7 288 yX7_troubleOfPlay ∈ e_tbl := e_in 967 (by decide +kernel) (by decide +kernel)
set_option maxRecDepth 20000 in
theorem im_X7_troubleOfPlay : Cond.instanceMethod yX7_troubleOfPlay ∈ e_tbl := e_in 969 (by decide +kernel) (by decide +kernel)
set_option maxRecDepth 20000 in
theorem se_X7_troubleOfPlay : Cond.selects yX7_troubleOfPlay.cls yX7_troubleOfPlay yX7_troubleOfPlay ∈ e_tbl := e_in 37 (by decide +kernel) (by decide +kernel)
set_option maxRecDepth 20000 in
theorem me_X0_copyFrom : e_me yX0_copyFrom cX0_copyFrom 2 none 1 := ⟨e_in 975 (by decide +kernel) (by decide +kernel), by decide, ⟨by decide +kernel, by decide +kernel⟩, by decide +kernel, e_in 99 (by decide +kernel) (by decide +kernel)⟩
set_option maxRecDepth 20000 in
theorem mlX7_292 : Cond.methodLink RX7 292 yX0_copyFrom ∈ e_tbl := e_in 972 (by decide +kernel) (by decide +kernel)
set_option maxRecDepth 20000 in
theorem im_X0_copyFrom : Cond.instanceMethod yX0_copyFrom ∈ e_tbl := e_in 973 (by decide +kernel) (by decide +kernel)
set_option maxRecDepth 20000 in
theorem se_X0_copyFrom : Cond.selects yX0_copyFrom.cls yX0_copyFrom yX0_copyFrom ∈ e_tbl := e_in 974 (by decide +kernel) (by decide +kernel)
set_option maxRecDepth 20000 in
theorem mlX7_296 : Cond.methodLink RX7 296 yX0_beginAnew ∈ e_tbl := e_in 976 (by decide +kernel) (by decide +kernel)
set_option maxRecDepth 20000 in
theorem me_X5_seedWith : e_me yX5_seedWith cX5_seedWith 2 none 1 := ⟨e_in 980 (by decide +kernel) (by decide +kernel), by decide, ⟨by decide +kernel, by decide +kernel⟩, by decide +kernel, e_in 104 (by decide +kernel) (by decide +kernel)⟩
set_option maxRecDepth 20000 in
theorem mlX7_299 : Cond.methodLink RX7 299 yX5_seedWith ∈ e_tbl := e_in 977 (by decide +kernel) (by decide +kernel)
set_option maxRecDepth 20000 in
theorem im_X5_seedWith : Cond.instanceMethod yX5_seedWith ∈ e_tbl := e_in 978 (by decide +kernel) (by decide +kernel)
set_option maxRecDepth 20000 in
theorem se_X5_seedWith : Cond.selects yX5_seedWith.cls yX5_seedWith yX5_seedWith ∈ e_tbl := e_in 979 (by decide +kernel) (by decide +kernel)
set_option maxRecDepth 20000 in
theorem fk4_22 : e_fk RX4 22 4 1 "I" := ⟨by decide, by decide, by decide +kernel, e_in 307 (by decide +kernel) (by decide +kernel)⟩
set_option maxRecDepth 20000 in
theorem ff4_1 : ((e_cl 4).2.1 1).2.2.2 = false := by decide +kernel
set_option maxRecDepth 20000 in
theorem mlX4_29 : Cond.methodLink RX4 29 Lib.Math.min.name ∈ e_tbl := e_in 1026 (by decide +kernel) (by decide +kernel)
set_option maxRecDepth 20000 in
theorem fk4_11 : e_fk RX4 11 4 0 "[LRunWorth$Game;" := ⟨by decide, by decide, by decide +kernel, e_in 306 (by decide +kernel) (by decide +kernel)⟩
set_option maxRecDepth 20000 in
theorem gr_9_0 : gR 9 0 = some 10 := rfl
set_option maxRecDepth 20000 in
theorem ar_10 : e_ar gN 10 13 10 := by unfold e_ar; decide
set_option maxRecDepth 20000 in
theorem mlX4_25 : Cond.methodLink RX4 25 yX0_copyFrom ∈ e_tbl := e_in 1025 (by decide +kernel) (by decide +kernel)
set_option maxRecDepth 20000 in
theorem me_X7_troubleOfEvent : e_me yX7_troubleOfEvent cX7_troubleOfEvent 2 (some .int) 1 := ⟨e_in 1020 (by decide +kernel) (by decide +kernel), by decide, ⟨by decide +kernel, by decide +kernel⟩, by decide +kernel, e_in 93 (by decide +kernel) (by decide +kernel)⟩
set_option maxRecDepth 20000 in
theorem mlX7_312 : Cond.methodLink RX7 312 yX7_troubleOfEvent ∈ e_tbl := e_in 1017 (by decide +kernel) (by decide +kernel)
set_option maxRecDepth 20000 in
theorem im_X7_troubleOfEvent : Cond.instanceMethod yX7_troubleOfEvent ∈ e_tbl := e_in 1019 (by decide +kernel) (by decide +kernel)
set_option maxRecDepth 20000 in
theorem se_X7_troubleOfEvent : Cond.selects yX7_troubleOfEvent.cls yX7_troubleOfEvent yX7_troubleOfEvent ∈ e_tbl := e_in 41 (by decide +kernel) (by decide +kernel)
set_option maxRecDepth 20000 in
theorem me_X4_keep : e_me yX4_keep cX4_keep 3 none 1 := ⟨e_in 1024 (by decide +kernel) (by decide +kernel), by decide, ⟨by decide +kernel, by decide +kernel⟩, by decide +kernel, e_in 100 (by decide +kernel) (by decide +kernel)⟩
set_option maxRecDepth 20000 in
theorem mlX7_315 : Cond.methodLink RX7 315 yX4_keep ∈ e_tbl := e_in 1021 (by decide +kernel) (by decide +kernel)
set_option maxRecDepth 20000 in
theorem im_X4_keep : Cond.instanceMethod yX4_keep ∈ e_tbl := e_in 1022 (by decide +kernel) (by decide +kernel)
set_option maxRecDepth 20000 in
theorem se_X4_keep : Cond.selects yX4_keep.cls yX4_keep yX4_keep ∈ e_tbl := e_in 1023 (by decide +kernel) (by decide +kernel)
set_option maxRecDepth 20000 in
theorem mlX7_318 : Cond.methodLink RX7 318 yX0_happen ∈ e_tbl := e_in 1027 (by decide +kernel) (by decide +kernel)
set_option maxRecDepth 20000 in
theorem mlX7_322 : Cond.methodLink RX7 322 yX0_exchange ∈ e_tbl := e_in 1044 (by decide +kernel) (by decide +kernel)
set_option maxRecDepth 20000 in
theorem mlX7_326 : Cond.methodLink RX7 326 yX0_putAt ∈ e_tbl := e_in 1049 (by decide +kernel) (by decide +kernel)
set_option maxRecDepth 20000 in
theorem mlX3_38 : Cond.methodLink RX3 38 yX3_worthExchanged ∈ e_tbl := e_in 1059 (by decide +kernel) (by decide +kernel)
set_option maxRecDepth 20000 in
theorem mlX3_30 : Cond.methodLink RX3 30 yX3_worthNow ∈ e_tbl := e_in 1058 (by decide +kernel) (by decide +kernel)
set_option maxRecDepth 20000 in
theorem me_X3_improve : e_me yX3_improve cX3_improve 12 (some .boolean) 3 := ⟨e_in 1057 (by decide +kernel) (by decide +kernel), by decide, ⟨by decide +kernel, by decide +kernel⟩, by decide +kernel, e_in 103 (by decide +kernel) (by decide +kernel)⟩
set_option maxRecDepth 20000 in
theorem mlX7_329 : Cond.methodLink RX7 329 yX3_improve ∈ e_tbl := e_in 1054 (by decide +kernel) (by decide +kernel)
set_option maxRecDepth 20000 in
theorem im_X3_improve : Cond.instanceMethod yX3_improve ∈ e_tbl := e_in 1055 (by decide +kernel) (by decide +kernel)
set_option maxRecDepth 20000 in
theorem se_X3_improve : Cond.selects yX3_improve.cls yX3_improve yX3_improve ∈ e_tbl := e_in 1056 (by decide +kernel) (by decide +kernel)
set_option maxRecDepth 20000 in
theorem me_X7_troubleOfShift : e_me yX7_troubleOfShift cX7_troubleOfShift 5 (some .int) 4 := ⟨e_in 1067 (by decide +kernel) (by decide +kernel), by decide, ⟨by decide +kernel, by decide +kernel⟩, by decide +kernel, e_in 93 (by decide +kernel) (by decide +kernel)⟩
set_option maxRecDepth 20000 in
theorem mlX7_333 : Cond.methodLink RX7 333 yX7_troubleOfShift ∈ e_tbl := e_in 1064 (by decide +kernel) (by decide +kernel)
set_option maxRecDepth 20000 in
theorem im_X7_troubleOfShift : Cond.instanceMethod yX7_troubleOfShift ∈ e_tbl := e_in 1066 (by decide +kernel) (by decide +kernel)
set_option maxRecDepth 20000 in
theorem se_X7_troubleOfShift : Cond.selects yX7_troubleOfShift.cls yX7_troubleOfShift yX7_troubleOfShift ∈ e_tbl := e_in 42 (by decide +kernel) (by decide +kernel)
set_option maxRecDepth 20000 in
theorem me_X0_putChance : e_me yX0_putChance cX0_putChance 4 none 3 := ⟨e_in 1071 (by decide +kernel) (by decide +kernel), by decide, ⟨by decide +kernel, by decide +kernel⟩, by decide +kernel, e_in 99 (by decide +kernel) (by decide +kernel)⟩
set_option maxRecDepth 20000 in
theorem mlX7_336 : Cond.methodLink RX7 336 yX0_putChance ∈ e_tbl := e_in 1068 (by decide +kernel) (by decide +kernel)
set_option maxRecDepth 20000 in
theorem im_X0_putChance : Cond.instanceMethod yX0_putChance ∈ e_tbl := e_in 1069 (by decide +kernel) (by decide +kernel)
set_option maxRecDepth 20000 in
theorem se_X0_putChance : Cond.selects yX0_putChance.cls yX0_putChance yX0_putChance ∈ e_tbl := e_in 1070 (by decide +kernel) (by decide +kernel)
set_option maxRecDepth 20000 in
theorem mlX7_346 : Cond.methodLink RX7 346 yX7_isRule ∈ e_tbl := e_in 1080 (by decide +kernel) (by decide +kernel)
set_option maxRecDepth 20000 in
theorem me_X7_troubleOfBecome : e_me yX7_troubleOfBecome cX7_troubleOfBecome 3 (some .int) 2 := ⟨e_in 1079 (by decide +kernel) (by decide +kernel), by decide, ⟨by decide +kernel, by decide +kernel⟩, by decide +kernel, e_in 93 (by decide +kernel) (by decide +kernel)⟩
set_option maxRecDepth 20000 in
theorem mlX7_340 : Cond.methodLink RX7 340 yX7_troubleOfBecome ∈ e_tbl := e_in 1076 (by decide +kernel) (by decide +kernel)
set_option maxRecDepth 20000 in
theorem im_X7_troubleOfBecome : Cond.instanceMethod yX7_troubleOfBecome ∈ e_tbl := e_in 1078 (by decide +kernel) (by decide +kernel)
set_option maxRecDepth 20000 in
theorem se_X7_troubleOfBecome : Cond.selects yX7_troubleOfBecome.cls yX7_troubleOfBecome yX7_troubleOfBecome ∈ e_tbl := e_in 43 (by decide +kernel) (by decide +kernel)
set_option maxRecDepth 20000 in
theorem me_X0_putRule : e_me yX0_putRule cX0_putRule 3 none 2 := ⟨e_in 1084 (by decide +kernel) (by decide +kernel), by decide, ⟨by decide +kernel, by decide +kernel⟩, by decide +kernel, e_in 99 (by decide +kernel) (by decide +kernel)⟩
set_option maxRecDepth 20000 in
theorem mlX7_343 : Cond.methodLink RX7 343 yX0_putRule ∈ e_tbl := e_in 1081 (by decide +kernel) (by decide +kernel)
set_option maxRecDepth 20000 in
theorem im_X0_putRule : Cond.instanceMethod yX0_putRule ∈ e_tbl := e_in 1082 (by decide +kernel) (by decide +kernel)
set_option maxRecDepth 20000 in
theorem se_X0_putRule : Cond.selects yX0_putRule.cls yX0_putRule yX0_putRule ∈ e_tbl := e_in 1083 (by decide +kernel) (by decide +kernel)
set_option maxRecDepth 20000 in
theorem me_X4_bringBack : e_me yX4_bringBack cX4_bringBack 3 none 1 := ⟨e_in 1092 (by decide +kernel) (by decide +kernel), by decide, ⟨by decide +kernel, by decide +kernel⟩, by decide +kernel, e_in 100 (by decide +kernel) (by decide +kernel)⟩
set_option maxRecDepth 20000 in
theorem mlX7_349 : Cond.methodLink RX7 349 yX4_bringBack ∈ e_tbl := e_in 1089 (by decide +kernel) (by decide +kernel)
set_option maxRecDepth 20000 in
theorem im_X4_bringBack : Cond.instanceMethod yX4_bringBack ∈ e_tbl := e_in 1090 (by decide +kernel) (by decide +kernel)
set_option maxRecDepth 20000 in
theorem se_X4_bringBack : Cond.selects yX4_bringBack.cls yX4_bringBack yX4_bringBack ∈ e_tbl := e_in 1091 (by decide +kernel) (by decide +kernel)
set_option maxRecDepth 20000 in
theorem mlX6_138 : Cond.methodLink RX6 138 yJ0_length_8abf5 ∈ e_tbl := e_in 131 (by decide +kernel) (by decide +kernel)
set_option maxRecDepth 20000 in
theorem mlX6_143 : Cond.methodLink RX6 143 yJ0_charAt_5068e ∈ e_tbl := e_in 141 (by decide +kernel) (by decide +kernel)
set_option maxRecDepth 20000 in
theorem fk8_54 : e_fk RX8 54 8 0 "I" := ⟨by decide, by decide, by decide +kernel, e_in 1184 (by decide +kernel) (by decide +kernel)⟩
set_option maxRecDepth 20000 in
theorem at_83 : e_at gN 83 8 := by unfold e_at; decide
set_option maxRecDepth 20000 in
theorem fk8_57 : e_fk RX8 57 8 1 "I" := ⟨by decide, by decide, by decide +kernel, e_in 1185 (by decide +kernel) (by decide +kernel)⟩
set_option maxRecDepth 20000 in
theorem ff8_1 : ((e_cl 8).2.1 1).2.2.2 = false := by decide +kernel
set_option maxRecDepth 20000 in
theorem ff8_0 : ((e_cl 8).2.1 0).2.2.2 = false := by decide +kernel
set_option maxRecDepth 20000 in
theorem fk8_9 : e_fk RX8 9 8 3 "I" := ⟨by decide, by decide, by decide +kernel, e_in 1187 (by decide +kernel) (by decide +kernel)⟩
set_option maxRecDepth 20000 in
theorem ff8_3 : ((e_cl 8).2.1 3).2.2.2 = false := by decide +kernel
set_option maxRecDepth 20000 in
theorem fk8_13 : e_fk RX8 13 8 4 "[I" := ⟨by decide, by decide, by decide +kernel, e_in 1188 (by decide +kernel) (by decide +kernel)⟩
set_option maxRecDepth 20000 in
theorem gr_83_4 : gR 83 4 = some 84 := rfl
set_option maxRecDepth 20000 in
theorem fk8_60 : e_fk RX8 60 8 5 "I" := ⟨by decide, by decide, by decide +kernel, e_in 1189 (by decide +kernel) (by decide +kernel)⟩
set_option maxRecDepth 20000 in
theorem ar_84 : e_ar gN 84 9 500 := by unfold e_ar; decide
set_option maxRecDepth 20000 in
theorem ff8_5 : ((e_cl 8).2.1 5).2.2.2 = false := by decide +kernel
set_option maxRecDepth 20000 in
theorem me_X8_laysWord : e_me yX8_laysWord cX8_laysWord 3 none 1 := ⟨e_in 1301 (by decide +kernel) (by decide +kernel), by decide, ⟨by decide +kernel, by decide +kernel⟩, by decide +kernel, e_in 105 (by decide +kernel) (by decide +kernel)⟩
set_option maxRecDepth 20000 in
theorem mlX8_63 : Cond.methodLink RX8 63 yX8_laysWord ∈ e_tbl := e_in 1298 (by decide +kernel) (by decide +kernel)
set_option maxRecDepth 20000 in
theorem im_X8_laysWord : Cond.instanceMethod yX8_laysWord ∈ e_tbl := e_in 1300 (by decide +kernel) (by decide +kernel)
set_option maxRecDepth 20000 in
theorem se_X8_laysWord : Cond.selects yX8_laysWord.cls yX8_laysWord yX8_laysWord ∈ e_tbl := e_in 45 (by decide +kernel) (by decide +kernel)
set_option maxRecDepth 20000 in
theorem fk8_67 : e_fk RX8 67 8 11 "I" := ⟨by decide, by decide, by decide +kernel, e_in 1195 (by decide +kernel) (by decide +kernel)⟩
set_option maxRecDepth 20000 in
theorem fk8_70 : e_fk RX8 70 8 13 "I" := ⟨by decide, by decide, by decide +kernel, e_in 1197 (by decide +kernel) (by decide +kernel)⟩
set_option maxRecDepth 20000 in
theorem me_X8_see : e_me yX8_see cX8_see 2 (some .int) 1 := ⟨e_in 1327 (by decide +kernel) (by decide +kernel), by decide, ⟨by decide +kernel, by decide +kernel⟩, by decide +kernel, e_in 105 (by decide +kernel) (by decide +kernel)⟩
set_option maxRecDepth 20000 in
theorem mlX8_73 : Cond.methodLink RX8 73 yX8_see ∈ e_tbl := e_in 1324 (by decide +kernel) (by decide +kernel)
set_option maxRecDepth 20000 in
theorem im_X8_see : Cond.instanceMethod yX8_see ∈ e_tbl := e_in 1326 (by decide +kernel) (by decide +kernel)
set_option maxRecDepth 20000 in
theorem se_X8_see : Cond.selects yX8_see.cls yX8_see yX8_see ∈ e_tbl := e_in 49 (by decide +kernel) (by decide +kernel)
set_option maxRecDepth 20000 in
theorem ff8_13 : ((e_cl 8).2.1 13).2.2.2 = false := by decide +kernel
set_option maxRecDepth 20000 in
theorem me_X8_in : e_me yX8_in cX8_in 3 (some .boolean) 3 := ⟨e_in 1308 (by decide +kernel) (by decide +kernel), by decide, ⟨by decide +kernel, by decide +kernel⟩, by decide +kernel, e_in 105 (by decide +kernel) (by decide +kernel)⟩
set_option maxRecDepth 20000 in
theorem sm_X8_in : Cond.static yX8_in ∈ e_tbl := e_in 1307 (by decide +kernel) (by decide +kernel)
set_option maxRecDepth 20000 in
theorem mlX8_83 : Cond.methodLink RX8 83 yX8_in ∈ e_tbl := e_in 1306 (by decide +kernel) (by decide +kernel)
set_option maxRecDepth 20000 in
theorem fk8_80 : e_fk RX8 80 8 14 "I" := ⟨by decide, by decide, by decide +kernel, e_in 1198 (by decide +kernel) (by decide +kernel)⟩
set_option maxRecDepth 20000 in
theorem ff8_14 : ((e_cl 8).2.1 14).2.2.2 = false := by decide +kernel
set_option maxRecDepth 20000 in
theorem fk8_77 : e_fk RX8 77 8 12 "I" := ⟨by decide, by decide, by decide +kernel, e_in 1196 (by decide +kernel) (by decide +kernel)⟩
set_option maxRecDepth 20000 in
theorem fk8_87 : e_fk RX8 87 8 15 "I" := ⟨by decide, by decide, by decide +kernel, e_in 1199 (by decide +kernel) (by decide +kernel)⟩
set_option maxRecDepth 20000 in
theorem ff8_15 : ((e_cl 8).2.1 15).2.2.2 = false := by decide +kernel
set_option maxRecDepth 20000 in
theorem ff8_12 : ((e_cl 8).2.1 12).2.2.2 = false := by decide +kernel
set_option maxRecDepth 20000 in
theorem mlX8_90 : Cond.methodLink RX8 90 yJ0_length_8abf5 ∈ e_tbl := e_in 1337 (by decide +kernel) (by decide +kernel)
set_option maxRecDepth 20000 in
theorem mlX8_96 : Cond.methodLink RX8 96 yJ0_charAt_5068e ∈ e_tbl := e_in 1338 (by decide +kernel) (by decide +kernel)
set_option maxRecDepth 20000 in
theorem fk8_100 : e_fk RX8 100 8 17 "I" := ⟨by decide, by decide, by decide +kernel, e_in 1201 (by decide +kernel) (by decide +kernel)⟩
set_option maxRecDepth 20000 in
theorem ff8_17 : ((e_cl 8).2.1 17).2.2.2 = false := by decide +kernel
set_option maxRecDepth 20000 in
theorem fk8_103 : e_fk RX8 103 8 18 "I" := ⟨by decide, by decide, by decide +kernel, e_in 1202 (by decide +kernel) (by decide +kernel)⟩
set_option maxRecDepth 20000 in
theorem ff8_18 : ((e_cl 8).2.1 18).2.2.2 = false := by decide +kernel
set_option maxRecDepth 20000 in
theorem me_X8_isWord : e_me yX8_isWord cX8_isWord 3 (some .boolean) 1 := ⟨e_in 1336 (by decide +kernel) (by decide +kernel), by decide, ⟨by decide +kernel, by decide +kernel⟩, by decide +kernel, e_in 105 (by decide +kernel) (by decide +kernel)⟩
set_option maxRecDepth 20000 in
theorem mlX8_108 : Cond.methodLink RX8 108 yX8_isWord ∈ e_tbl := e_in 1333 (by decide +kernel) (by decide +kernel)
set_option maxRecDepth 20000 in
theorem im_X8_isWord : Cond.instanceMethod yX8_isWord ∈ e_tbl := e_in 1335 (by decide +kernel) (by decide +kernel)
set_option maxRecDepth 20000 in
theorem se_X8_isWord : Cond.selects yX8_isWord.cls yX8_isWord yX8_isWord ∈ e_tbl := e_in 51 (by decide +kernel) (by decide +kernel)
set_option maxRecDepth 20000 in
theorem fk8_20 : e_fk RX8 20 8 8 "[I" := ⟨by decide, by decide, by decide +kernel, e_in 1192 (by decide +kernel) (by decide +kernel)⟩
set_option maxRecDepth 20000 in
theorem gr_83_8 : gR 83 8 = some 86 := rfl
set_option maxRecDepth 20000 in
theorem ar_86 : e_ar gN 86 9 396 := by unfold e_ar; decide
set_option maxRecDepth 20000 in
theorem me_X8_goesOn : e_me yX8_goesOn cX8_goesOn 2 none 0 := ⟨e_in 1323 (by decide +kernel) (by decide +kernel), by decide, ⟨by decide +kernel, by decide +kernel⟩, by decide +kernel, e_in 105 (by decide +kernel) (by decide +kernel)⟩
set_option maxRecDepth 20000 in
theorem mlX8_126 : Cond.methodLink RX8 126 yX8_goesOn ∈ e_tbl := e_in 1320 (by decide +kernel) (by decide +kernel)
set_option maxRecDepth 20000 in
theorem im_X8_goesOn : Cond.instanceMethod yX8_goesOn ∈ e_tbl := e_in 1322 (by decide +kernel) (by decide +kernel)
set_option maxRecDepth 20000 in
theorem se_X8_goesOn : Cond.selects yX8_goesOn.cls yX8_goesOn yX8_goesOn ∈ e_tbl := e_in 48 (by decide +kernel) (by decide +kernel)
set_option maxRecDepth 20000 in
theorem me_X8_errs : e_me yX8_errs cX8_errs 2 (some .boolean) 1 := ⟨e_in 1346 (by decide +kernel) (by decide +kernel), by decide, ⟨by decide +kernel, by decide +kernel⟩, by decide +kernel, e_in 105 (by decide +kernel) (by decide +kernel)⟩
set_option maxRecDepth 20000 in
theorem mlX8_122 : Cond.methodLink RX8 122 yX8_errs ∈ e_tbl := e_in 1343 (by decide +kernel) (by decide +kernel)
set_option maxRecDepth 20000 in
theorem im_X8_errs : Cond.instanceMethod yX8_errs ∈ e_tbl := e_in 1345 (by decide +kernel) (by decide +kernel)
set_option maxRecDepth 20000 in
theorem se_X8_errs : Cond.selects yX8_errs.cls yX8_errs yX8_errs ∈ e_tbl := e_in 53 (by decide +kernel) (by decide +kernel)
set_option maxRecDepth 20000 in
theorem fk8_26 : e_fk RX8 26 8 10 "[I" := ⟨by decide, by decide, by decide +kernel, e_in 1194 (by decide +kernel) (by decide +kernel)⟩
set_option maxRecDepth 20000 in
theorem gr_83_10 : gR 83 10 = some 88 := rfl
set_option maxRecDepth 20000 in
theorem me_X8_isAt : e_me yX8_isAt cX8_isAt 8 (some .boolean) 4 := ⟨e_in 1359 (by decide +kernel) (by decide +kernel), by decide, ⟨by decide +kernel, by decide +kernel⟩, by decide +kernel, e_in 105 (by decide +kernel) (by decide +kernel)⟩
set_option maxRecDepth 20000 in
theorem mlX8_133 : Cond.methodLink RX8 133 yX8_isAt ∈ e_tbl := e_in 1356 (by decide +kernel) (by decide +kernel)
set_option maxRecDepth 20000 in
theorem im_X8_isAt : Cond.instanceMethod yX8_isAt ∈ e_tbl := e_in 1358 (by decide +kernel) (by decide +kernel)
set_option maxRecDepth 20000 in
theorem se_X8_isAt : Cond.selects yX8_isAt.cls yX8_isAt yX8_isAt ∈ e_tbl := e_in 55 (by decide +kernel) (by decide +kernel)
set_option maxRecDepth 20000 in
theorem ar_88 : e_ar gN 88 9 54 := by unfold e_ar; decide
set_option maxRecDepth 20000 in
theorem me_X8_takes : e_me yX8_takes cX8_takes 4 (some .boolean) 3 := ⟨e_in 1363 (by decide +kernel) (by decide +kernel), by decide, ⟨by decide +kernel, by decide +kernel⟩, by decide +kernel, e_in 105 (by decide +kernel) (by decide +kernel)⟩
set_option maxRecDepth 20000 in
theorem mlX8_137 : Cond.methodLink RX8 137 yX8_takes ∈ e_tbl := e_in 1360 (by decide +kernel) (by decide +kernel)
set_option maxRecDepth 20000 in
theorem im_X8_takes : Cond.instanceMethod yX8_takes ∈ e_tbl := e_in 1362 (by decide +kernel) (by decide +kernel)
set_option maxRecDepth 20000 in
theorem se_X8_takes : Cond.selects yX8_takes.cls yX8_takes yX8_takes ∈ e_tbl := e_in 56 (by decide +kernel) (by decide +kernel)
set_option maxRecDepth 20000 in
theorem me_X8_isName : e_me yX8_isName cX8_isName 1 (some .boolean) 0 := ⟨e_in 1350 (by decide +kernel) (by decide +kernel), by decide, ⟨by decide +kernel, by decide +kernel⟩, by decide +kernel, e_in 105 (by decide +kernel) (by decide +kernel)⟩
set_option maxRecDepth 20000 in
theorem mlX8_129 : Cond.methodLink RX8 129 yX8_isName ∈ e_tbl := e_in 1347 (by decide +kernel) (by decide +kernel)
set_option maxRecDepth 20000 in
theorem im_X8_isName : Cond.instanceMethod yX8_isName ∈ e_tbl := e_in 1349 (by decide +kernel) (by decide +kernel)
set_option maxRecDepth 20000 in
theorem se_X8_isName : Cond.selects yX8_isName.cls yX8_isName yX8_isName ∈ e_tbl := e_in 54 (by decide +kernel) (by decide +kernel)
set_option maxRecDepth 20000 in
theorem fk8_140 : e_fk RX8 140 8 16 "I" := ⟨by decide, by decide, by decide +kernel, e_in 1200 (by decide +kernel) (by decide +kernel)⟩
set_option maxRecDepth 20000 in
theorem ff8_16 : ((e_cl 8).2.1 16).2.2.2 = false := by decide +kernel
set_option maxRecDepth 20000 in
theorem me_X8_lowOf : e_me yX8_lowOf cX8_lowOf 1 (some .int) 1 := ⟨e_in 1370 (by decide +kernel) (by decide +kernel), by decide, ⟨by decide +kernel, by decide +kernel⟩, by decide +kernel, e_in 105 (by decide +kernel) (by decide +kernel)⟩
set_option maxRecDepth 20000 in
theorem sm_X8_lowOf : Cond.static yX8_lowOf ∈ e_tbl := e_in 1369 (by decide +kernel) (by decide +kernel)
set_option maxRecDepth 20000 in
theorem mlX8_143 : Cond.methodLink RX8 143 yX8_lowOf ∈ e_tbl := e_in 1368 (by decide +kernel) (by decide +kernel)
set_option maxRecDepth 20000 in
theorem me_X8_highOf : e_me yX8_highOf cX8_highOf 1 (some .int) 1 := ⟨e_in 1373 (by decide +kernel) (by decide +kernel), by decide, ⟨by decide +kernel, by decide +kernel⟩, by decide +kernel, e_in 105 (by decide +kernel) (by decide +kernel)⟩
set_option maxRecDepth 20000 in
theorem sm_X8_highOf : Cond.static yX8_highOf ∈ e_tbl := e_in 1372 (by decide +kernel) (by decide +kernel)
set_option maxRecDepth 20000 in
theorem mlX8_146 : Cond.methodLink RX8 146 yX8_highOf ∈ e_tbl := e_in 1371 (by decide +kernel) (by decide +kernel)
set_option maxRecDepth 20000 in
theorem me_X8_readOnce : e_me yX8_readOnce cX8_readOnce 2 (some .boolean) 1 := ⟨e_in 1367 (by decide +kernel) (by decide +kernel), by decide, ⟨by decide +kernel, by decide +kernel⟩, by decide +kernel, e_in 105 (by decide +kernel) (by decide +kernel)⟩
set_option maxRecDepth 20000 in
theorem mlX8_152 : Cond.methodLink RX8 152 yX8_readOnce ∈ e_tbl := e_in 1364 (by decide +kernel) (by decide +kernel)
set_option maxRecDepth 20000 in
theorem im_X8_readOnce : Cond.instanceMethod yX8_readOnce ∈ e_tbl := e_in 1366 (by decide +kernel) (by decide +kernel)
set_option maxRecDepth 20000 in
theorem se_X8_readOnce : Cond.selects yX8_readOnce.cls yX8_readOnce yX8_readOnce ∈ e_tbl := e_in 57 (by decide +kernel) (by decide +kernel)
set_option maxRecDepth 20000 in
theorem me_X8_readBatter : e_me yX8_readBatter cX8_readBatter 5 (some .boolean) 0 := ⟨e_in 1342 (by decide +kernel) (by decide +kernel), by decide, ⟨by decide +kernel, by decide +kernel⟩, by decide +kernel, e_in 105 (by decide +kernel) (by decide +kernel)⟩
set_option maxRecDepth 20000 in
theorem mlX8_149 : Cond.methodLink RX8 149 yX8_readBatter ∈ e_tbl := e_in 1339 (by decide +kernel) (by decide +kernel)
set_option maxRecDepth 20000 in
theorem im_X8_readBatter : Cond.instanceMethod yX8_readBatter ∈ e_tbl := e_in 1341 (by decide +kernel) (by decide +kernel)
set_option maxRecDepth 20000 in
theorem se_X8_readBatter : Cond.selects yX8_readBatter.cls yX8_readBatter yX8_readBatter ∈ e_tbl := e_in 52 (by decide +kernel) (by decide +kernel)
set_option maxRecDepth 20000 in
theorem me_X8_readLine : e_me yX8_readLine cX8_readLine 2 (some .boolean) 0 := ⟨e_in 1331 (by decide +kernel) (by decide +kernel), by decide, ⟨by decide +kernel, by decide +kernel⟩, by decide +kernel, e_in 105 (by decide +kernel) (by decide +kernel)⟩
set_option maxRecDepth 20000 in
theorem mlX8_155 : Cond.methodLink RX8 155 yX8_readLine ∈ e_tbl := e_in 1328 (by decide +kernel) (by decide +kernel)
set_option maxRecDepth 20000 in
theorem im_X8_readLine : Cond.instanceMethod yX8_readLine ∈ e_tbl := e_in 1330 (by decide +kernel) (by decide +kernel)
set_option maxRecDepth 20000 in
theorem se_X8_readLine : Cond.selects yX8_readLine.cls yX8_readLine yX8_readLine ∈ e_tbl := e_in 50 (by decide +kernel) (by decide +kernel)
set_option maxRecDepth 20000 in
theorem ff8_11 : ((e_cl 8).2.1 11).2.2.2 = false := by decide +kernel
set_option maxRecDepth 20000 in
theorem me_X8_unless_ : e_me yX8_unless_ cX8_unless_ 2 (some .int) 2 := ⟨e_in 1311 (by decide +kernel) (by decide +kernel), by decide, ⟨by decide +kernel, by decide +kernel⟩, by decide +kernel, e_in 105 (by decide +kernel) (by decide +kernel)⟩
set_option maxRecDepth 20000 in
theorem sm_X8_unless_ : Cond.static yX8_unless_ ∈ e_tbl := e_in 1310 (by decide +kernel) (by decide +kernel)
set_option maxRecDepth 20000 in
theorem mlX8_158 : Cond.methodLink RX8 158 yX8_unless_ ∈ e_tbl := e_in 1309 (by decide +kernel) (by decide +kernel)
set_option maxRecDepth 20000 in
theorem me_X8_isRefused : e_me yX8_isRefused cX8_isRefused 2 (some .boolean) 1 := ⟨e_in 1315 (by decide +kernel) (by decide +kernel), by decide, ⟨by decide +kernel, by decide +kernel⟩, by decide +kernel, e_in 105 (by decide +kernel) (by decide +kernel)⟩
set_option maxRecDepth 20000 in
theorem mlX8_162 : Cond.methodLink RX8 162 yX8_isRefused ∈ e_tbl := e_in 1312 (by decide +kernel) (by decide +kernel)
set_option maxRecDepth 20000 in
theorem im_X8_isRefused : Cond.instanceMethod yX8_isRefused ∈ e_tbl := e_in 1314 (by decide +kernel) (by decide +kernel)
set_option maxRecDepth 20000 in
theorem se_X8_isRefused : Cond.selects yX8_isRefused.cls yX8_isRefused yX8_isRefused ∈ e_tbl := e_in 46 (by decide +kernel) (by decide +kernel)
set_option maxRecDepth 20000 in
theorem fk8_165 : e_fk RX8 165 8 2 "I" := ⟨by decide, by decide, by decide +kernel, e_in 1186 (by decide +kernel) (by decide +kernel)⟩
set_option maxRecDepth 20000 in
theorem ff8_2 : ((e_cl 8).2.1 2).2.2.2 = false := by decide +kernel
set_option maxRecDepth 20000 in
theorem me_X8_readAll : e_me yX8_readAll cX8_readAll 3 (some .boolean) 1 := ⟨e_in 1319 (by decide +kernel) (by decide +kernel), by decide, ⟨by decide +kernel, by decide +kernel⟩, by decide +kernel, e_in 105 (by decide +kernel) (by decide +kernel)⟩
set_option maxRecDepth 20000 in
theorem mlX8_168 : Cond.methodLink RX8 168 yX8_readAll ∈ e_tbl := e_in 1316 (by decide +kernel) (by decide +kernel)
set_option maxRecDepth 20000 in
theorem im_X8_readAll : Cond.instanceMethod yX8_readAll ∈ e_tbl := e_in 1318 (by decide +kernel) (by decide +kernel)
set_option maxRecDepth 20000 in
theorem se_X8_readAll : Cond.selects yX8_readAll.cls yX8_readAll yX8_readAll ∈ e_tbl := e_in 47 (by decide +kernel) (by decide +kernel)
set_option maxRecDepth 20000 in
theorem fk8_174 : e_fk RX8 174 8 6 "Z" := ⟨by decide, by decide, by decide +kernel, e_in 1190 (by decide +kernel) (by decide +kernel)⟩
set_option maxRecDepth 20000 in
theorem ff8_6 : ((e_cl 8).2.1 6).2.2.2 = false := by decide +kernel
set_option maxRecDepth 20000 in
theorem fk8_178 : e_fk RX8 178 8 33 "I" := ⟨by decide, by decide, by decide +kernel, e_in 1217 (by decide +kernel) (by decide +kernel)⟩
set_option maxRecDepth 20000 in
theorem ff8_33 : ((e_cl 8).2.1 33).2.2.2 = false := by decide +kernel
set_option maxRecDepth 20000 in
theorem fk8_17 : e_fk RX8 17 8 7 "[I" := ⟨by decide, by decide, by decide +kernel, e_in 1191 (by decide +kernel) (by decide +kernel)⟩
set_option maxRecDepth 20000 in
theorem gr_83_7 : gR 83 7 = some 85 := rfl
set_option maxRecDepth 20000 in
theorem me_X8_lays : e_me yX8_lays cX8_lays 6 none 5 := ⟨e_in 1380 (by decide +kernel) (by decide +kernel), by decide, ⟨by decide +kernel, by decide +kernel⟩, by decide +kernel, e_in 105 (by decide +kernel) (by decide +kernel)⟩
set_option maxRecDepth 20000 in
theorem sm_X8_lays : Cond.static yX8_lays ∈ e_tbl := e_in 1379 (by decide +kernel) (by decide +kernel)
set_option maxRecDepth 20000 in
theorem mlX8_181 : Cond.methodLink RX8 181 yX8_lays ∈ e_tbl := e_in 1378 (by decide +kernel) (by decide +kernel)
set_option maxRecDepth 20000 in
theorem fk8_23 : e_fk RX8 23 8 9 "[I" := ⟨by decide, by decide, by decide +kernel, e_in 1193 (by decide +kernel) (by decide +kernel)⟩
set_option maxRecDepth 20000 in
theorem gr_83_9 : gR 83 9 = some 87 := rfl
set_option maxRecDepth 20000 in
theorem me_X8_begins : e_me yX8_begins cX8_begins 1 none 1 := ⟨e_in 1383 (by decide +kernel) (by decide +kernel), by decide, ⟨by decide +kernel, by decide +kernel⟩, by decide +kernel, e_in 105 (by decide +kernel) (by decide +kernel)⟩
set_option maxRecDepth 20000 in
theorem sm_X8_begins : Cond.static yX8_begins ∈ e_tbl := e_in 1382 (by decide +kernel) (by decide +kernel)
set_option maxRecDepth 20000 in
theorem mlX8_185 : Cond.methodLink RX8 185 yX8_begins ∈ e_tbl := e_in 1381 (by decide +kernel) (by decide +kernel)
set_option maxRecDepth 20000 in
theorem ar_85 : e_ar gN 85 9 396 := by unfold e_ar; decide
set_option maxRecDepth 20000 in
theorem me_X8_no : e_me yX8_no cX8_no 2 (some .int) 1 := ⟨e_in 1377 (by decide +kernel) (by decide +kernel), by decide, ⟨by decide +kernel, by decide +kernel⟩, by decide +kernel, e_in 105 (by decide +kernel) (by decide +kernel)⟩
set_option maxRecDepth 20000 in
theorem mlX8_171 : Cond.methodLink RX8 171 yX8_no ∈ e_tbl := e_in 1374 (by decide +kernel) (by decide +kernel)
set_option maxRecDepth 20000 in
theorem im_X8_no : Cond.instanceMethod yX8_no ∈ e_tbl := e_in 1376 (by decide +kernel) (by decide +kernel)
set_option maxRecDepth 20000 in
theorem se_X8_no : Cond.selects yX8_no.cls yX8_no yX8_no ∈ e_tbl := e_in 58 (by decide +kernel) (by decide +kernel)
set_option maxRecDepth 20000 in
theorem me_X8_unless : e_me yX8_unless cX8_unless 1 (some .int) 1 := ⟨e_in 1398 (by decide +kernel) (by decide +kernel), by decide, ⟨by decide +kernel, by decide +kernel⟩, by decide +kernel, e_in 105 (by decide +kernel) (by decide +kernel)⟩
set_option maxRecDepth 20000 in
theorem sm_X8_unless : Cond.static yX8_unless ∈ e_tbl := e_in 1397 (by decide +kernel) (by decide +kernel)
set_option maxRecDepth 20000 in
theorem mlX8_189 : Cond.methodLink RX8 189 yX8_unless ∈ e_tbl := e_in 1396 (by decide +kernel) (by decide +kernel)
set_option maxRecDepth 20000 in
theorem me_X8_placeOf : e_me yX8_placeOf cX8_placeOf 3 (some .int) 1 := ⟨e_in 1414 (by decide +kernel) (by decide +kernel), by decide, ⟨by decide +kernel, by decide +kernel⟩, by decide +kernel, e_in 105 (by decide +kernel) (by decide +kernel)⟩
set_option maxRecDepth 20000 in
theorem mlX8_195 : Cond.methodLink RX8 195 yX8_placeOf ∈ e_tbl := e_in 1411 (by decide +kernel) (by decide +kernel)
set_option maxRecDepth 20000 in
theorem im_X8_placeOf : Cond.instanceMethod yX8_placeOf ∈ e_tbl := e_in 1413 (by decide +kernel) (by decide +kernel)
set_option maxRecDepth 20000 in
theorem se_X8_placeOf : Cond.selects yX8_placeOf.cls yX8_placeOf yX8_placeOf ∈ e_tbl := e_in 60 (by decide +kernel) (by decide +kernel)
set_option maxRecDepth 20000 in
theorem me_X8_logged : e_me yX8_logged cX8_logged 3 (some .int) 2 := ⟨e_in 1418 (by decide +kernel) (by decide +kernel), by decide, ⟨by decide +kernel, by decide +kernel⟩, by decide +kernel, e_in 105 (by decide +kernel) (by decide +kernel)⟩
set_option maxRecDepth 20000 in
theorem mlX8_198 : Cond.methodLink RX8 198 yX8_logged ∈ e_tbl := e_in 1415 (by decide +kernel) (by decide +kernel)
set_option maxRecDepth 20000 in
theorem im_X8_logged : Cond.instanceMethod yX8_logged ∈ e_tbl := e_in 1417 (by decide +kernel) (by decide +kernel)
set_option maxRecDepth 20000 in
theorem se_X8_logged : Cond.selects yX8_logged.cls yX8_logged yX8_logged ∈ e_tbl := e_in 61 (by decide +kernel) (by decide +kernel)
set_option maxRecDepth 20000 in
theorem me_X8_isBatter : e_me yX8_isBatter cX8_isBatter 2 (some .boolean) 1 := ⟨e_in 1410 (by decide +kernel) (by decide +kernel), by decide, ⟨by decide +kernel, by decide +kernel⟩, by decide +kernel, e_in 105 (by decide +kernel) (by decide +kernel)⟩
set_option maxRecDepth 20000 in
theorem mlX8_192 : Cond.methodLink RX8 192 yX8_isBatter ∈ e_tbl := e_in 1407 (by decide +kernel) (by decide +kernel)
set_option maxRecDepth 20000 in
theorem im_X8_isBatter : Cond.instanceMethod yX8_isBatter ∈ e_tbl := e_in 1409 (by decide +kernel) (by decide +kernel)
set_option maxRecDepth 20000 in
theorem se_X8_isBatter : Cond.selects yX8_isBatter.cls yX8_isBatter yX8_isBatter ∈ e_tbl := e_in 59 (by decide +kernel) (by decide +kernel)
set_option maxRecDepth 20000 in
theorem me_X8_chanceOf : e_me yX8_chanceOf cX8_chanceOf 7 (some .int) 3 := ⟨e_in 1434 (by decide +kernel) (by decide +kernel), by decide, ⟨by decide +kernel, by decide +kernel⟩, by decide +kernel, e_in 105 (by decide +kernel) (by decide +kernel)⟩
set_option maxRecDepth 20000 in
theorem mlX8_202 : Cond.methodLink RX8 202 yX8_chanceOf ∈ e_tbl := e_in 1431 (by decide +kernel) (by decide +kernel)
set_option maxRecDepth 20000 in
theorem im_X8_chanceOf : Cond.instanceMethod yX8_chanceOf ∈ e_tbl := e_in 1433 (by decide +kernel) (by decide +kernel)
set_option maxRecDepth 20000 in
theorem se_X8_chanceOf : Cond.selects yX8_chanceOf.cls yX8_chanceOf yX8_chanceOf ∈ e_tbl := e_in 62 (by decide +kernel) (by decide +kernel)
set_option maxRecDepth 20000 in
theorem fk8_209 : e_fk RX8 209 8 19 "I" := ⟨by decide, by decide, by decide +kernel, e_in 1203 (by decide +kernel) (by decide +kernel)⟩
set_option maxRecDepth 20000 in
theorem ff8_19 : ((e_cl 8).2.1 19).2.2.2 = false := by decide +kernel
set_option maxRecDepth 20000 in
theorem fk8_206 : e_fk RX8 206 8 21 "I" := ⟨by decide, by decide, by decide +kernel, e_in 1205 (by decide +kernel) (by decide +kernel)⟩
set_option maxRecDepth 20000 in
theorem ff8_21 : ((e_cl 8).2.1 21).2.2.2 = false := by decide +kernel
set_option maxRecDepth 20000 in
theorem me_X8_allCome : e_me yX8_allCome cX8_allCome 4 none 2 := ⟨e_in 1456 (by decide +kernel) (by decide +kernel), by decide, ⟨by decide +kernel, by decide +kernel⟩, by decide +kernel, e_in 105 (by decide +kernel) (by decide +kernel)⟩
set_option maxRecDepth 20000 in
theorem mlX8_212 : Cond.methodLink RX8 212 yX8_allCome ∈ e_tbl := e_in 1453 (by decide +kernel) (by decide +kernel)
set_option maxRecDepth 20000 in
theorem im_X8_allCome : Cond.instanceMethod yX8_allCome ∈ e_tbl := e_in 1455 (by decide +kernel) (by decide +kernel)
set_option maxRecDepth 20000 in
theorem se_X8_allCome : Cond.selects yX8_allCome.cls yX8_allCome yX8_allCome ∈ e_tbl := e_in 65 (by decide +kernel) (by decide +kernel)
set_option maxRecDepth 20000 in
theorem fk8_216 : e_fk RX8 216 8 20 "I" := ⟨by decide, by decide, by decide +kernel, e_in 1204 (by decide +kernel) (by decide +kernel)⟩
set_option maxRecDepth 20000 in
theorem ff8_20 : ((e_cl 8).2.1 20).2.2.2 = false := by decide +kernel
set_option maxRecDepth 20000 in
theorem me_X8_walks : e_me yX8_walks cX8_walks 3 none 1 := ⟨e_in 1452 (by decide +kernel) (by decide +kernel), by decide, ⟨by decide +kernel, by decide +kernel⟩, by decide +kernel, e_in 105 (by decide +kernel) (by decide +kernel)⟩
set_option maxRecDepth 20000 in
theorem mlX8_219 : Cond.methodLink RX8 219 yX8_walks ∈ e_tbl := e_in 1449 (by decide +kernel) (by decide +kernel)
set_option maxRecDepth 20000 in
theorem im_X8_walks : Cond.instanceMethod yX8_walks ∈ e_tbl := e_in 1451 (by decide +kernel) (by decide +kernel)
set_option maxRecDepth 20000 in
theorem se_X8_walks : Cond.selects yX8_walks.cls yX8_walks yX8_walks ∈ e_tbl := e_in 64 (by decide +kernel) (by decide +kernel)
set_option maxRecDepth 20000 in
theorem me_X8_isState : e_me yX8_isState cX8_isState 2 (some .boolean) 2 := ⟨e_in 1441 (by decide +kernel) (by decide +kernel), by decide, ⟨by decide +kernel, by decide +kernel⟩, by decide +kernel, e_in 105 (by decide +kernel) (by decide +kernel)⟩
set_option maxRecDepth 20000 in
theorem sm_X8_isState : Cond.static yX8_isState ∈ e_tbl := e_in 1440 (by decide +kernel) (by decide +kernel)
set_option maxRecDepth 20000 in
theorem mlX8_222 : Cond.methodLink RX8 222 yX8_isState ∈ e_tbl := e_in 1439 (by decide +kernel) (by decide +kernel)
set_option maxRecDepth 20000 in
theorem me_X8_canBe : e_me yX8_canBe cX8_canBe 3 (some .boolean) 3 := ⟨e_in 1444 (by decide +kernel) (by decide +kernel), by decide, ⟨by decide +kernel, by decide +kernel⟩, by decide +kernel, e_in 105 (by decide +kernel) (by decide +kernel)⟩
set_option maxRecDepth 20000 in
theorem sm_X8_canBe : Cond.static yX8_canBe ∈ e_tbl := e_in 1443 (by decide +kernel) (by decide +kernel)
set_option maxRecDepth 20000 in
theorem mlX8_226 : Cond.methodLink RX8 226 yX8_canBe ∈ e_tbl := e_in 1442 (by decide +kernel) (by decide +kernel)
set_option maxRecDepth 20000 in
theorem me_X8_comes : e_me yX8_comes cX8_comes 5 none 3 := ⟨e_in 1448 (by decide +kernel) (by decide +kernel), by decide, ⟨by decide +kernel, by decide +kernel⟩, by decide +kernel, e_in 105 (by decide +kernel) (by decide +kernel)⟩
set_option maxRecDepth 20000 in
theorem mlX8_229 : Cond.methodLink RX8 229 yX8_comes ∈ e_tbl := e_in 1445 (by decide +kernel) (by decide +kernel)
set_option maxRecDepth 20000 in
theorem im_X8_comes : Cond.instanceMethod yX8_comes ∈ e_tbl := e_in 1447 (by decide +kernel) (by decide +kernel)
set_option maxRecDepth 20000 in
theorem se_X8_comes : Cond.selects yX8_comes.cls yX8_comes yX8_comes ∈ e_tbl := e_in 63 (by decide +kernel) (by decide +kernel)
set_option maxRecDepth 20000 in
theorem fk8_233 : e_fk RX8 233 8 26 "J" := ⟨by decide, by decide, by decide +kernel, e_in 1210 (by decide +kernel) (by decide +kernel)⟩
set_option maxRecDepth 20000 in
theorem fk8_33 : e_fk RX8 33 8 23 "[J" := ⟨by decide, by decide, by decide +kernel, e_in 1207 (by decide +kernel) (by decide +kernel)⟩
set_option maxRecDepth 20000 in
theorem gr_83_23 : gR 83 23 = some 90 := rfl
set_option maxRecDepth 20000 in
theorem ar_90 : e_ar gN 90 12 24 := by unfold e_ar; decide
set_option maxRecDepth 20000 in
theorem fk8_39 : e_fk RX8 39 8 25 "[I" := ⟨by decide, by decide, by decide +kernel, e_in 1209 (by decide +kernel) (by decide +kernel)⟩
set_option maxRecDepth 20000 in
theorem gr_83_25 : gR 83 25 = some 92 := rfl
set_option maxRecDepth 20000 in
theorem ar_92 : e_ar gN 92 9 6 := by unfold e_ar; decide
set_option maxRecDepth 20000 in
theorem me_X8_behind : e_me yX8_behind cX8_behind 7 (some .long) 4 := ⟨e_in 1493 (by decide +kernel) (by decide +kernel), by decide, ⟨by decide +kernel, by decide +kernel⟩, by decide +kernel, e_in 105 (by decide +kernel) (by decide +kernel)⟩
set_option maxRecDepth 20000 in
theorem mlX8_237 : Cond.methodLink RX8 237 yX8_behind ∈ e_tbl := e_in 1490 (by decide +kernel) (by decide +kernel)
set_option maxRecDepth 20000 in
theorem im_X8_behind : Cond.instanceMethod yX8_behind ∈ e_tbl := e_in 1492 (by decide +kernel) (by decide +kernel)
set_option maxRecDepth 20000 in
theorem se_X8_behind : Cond.selects yX8_behind.cls yX8_behind yX8_behind ∈ e_tbl := e_in 73 (by decide +kernel) (by decide +kernel)
set_option maxRecDepth 20000 in
theorem clX8_241 : Cond.constantLong RX8 241 (20) ∈ e_tbl := e_in 1501 (by decide +kernel) (by decide +kernel)
set_option maxRecDepth 20000 in
theorem me_X8_hits : e_me yX8_hits cX8_hits 7 (some .long) 3 := ⟨e_in 1489 (by decide +kernel) (by decide +kernel), by decide, ⟨by decide +kernel, by decide +kernel⟩, by decide +kernel, e_in 105 (by decide +kernel) (by decide +kernel)⟩
set_option maxRecDepth 20000 in
theorem mlX8_243 : Cond.methodLink RX8 243 yX8_hits ∈ e_tbl := e_in 1486 (by decide +kernel) (by decide +kernel)
set_option maxRecDepth 20000 in
theorem im_X8_hits : Cond.instanceMethod yX8_hits ∈ e_tbl := e_in 1488 (by decide +kernel) (by decide +kernel)
set_option maxRecDepth 20000 in
theorem se_X8_hits : Cond.selects yX8_hits.cls yX8_hits yX8_hits ∈ e_tbl := e_in 72 (by decide +kernel) (by decide +kernel)
set_option maxRecDepth 20000 in
theorem me_X8_bunts : e_me yX8_bunts cX8_bunts 3 (some .long) 2 := ⟨e_in 1505 (by decide +kernel) (by decide +kernel), by decide, ⟨by decide +kernel, by decide +kernel⟩, by decide +kernel, e_in 105 (by decide +kernel) (by decide +kernel)⟩
set_option maxRecDepth 20000 in
theorem mlX8_247 : Cond.methodLink RX8 247 yX8_bunts ∈ e_tbl := e_in 1502 (by decide +kernel) (by decide +kernel)
set_option maxRecDepth 20000 in
theorem im_X8_bunts : Cond.instanceMethod yX8_bunts ∈ e_tbl := e_in 1504 (by decide +kernel) (by decide +kernel)
set_option maxRecDepth 20000 in
theorem se_X8_bunts : Cond.selects yX8_bunts.cls yX8_bunts yX8_bunts ∈ e_tbl := e_in 75 (by decide +kernel) (by decide +kernel)
set_option maxRecDepth 20000 in
theorem me_X8_hitsOrBunts : e_me yX8_hitsOrBunts cX8_hitsOrBunts 7 (some .long) 2 := ⟨e_in 1513 (by decide +kernel) (by decide +kernel), by decide, ⟨by decide +kernel, by decide +kernel⟩, by decide +kernel, e_in 105 (by decide +kernel) (by decide +kernel)⟩
set_option maxRecDepth 20000 in
theorem mlX8_251 : Cond.methodLink RX8 251 yX8_hitsOrBunts ∈ e_tbl := e_in 1510 (by decide +kernel) (by decide +kernel)
set_option maxRecDepth 20000 in
theorem im_X8_hitsOrBunts : Cond.instanceMethod yX8_hitsOrBunts ∈ e_tbl := e_in 1512 (by decide +kernel) (by decide +kernel)
set_option maxRecDepth 20000 in
theorem se_X8_hitsOrBunts : Cond.selects yX8_hitsOrBunts.cls yX8_hitsOrBunts yX8_hitsOrBunts ∈ e_tbl := e_in 77 (by decide +kernel) (by decide +kernel)
set_option maxRecDepth 20000 in
theorem fk8_254 : e_fk RX8 254 8 27 "I" := ⟨by decide, by decide, by decide +kernel, e_in 1211 (by decide +kernel) (by decide +kernel)⟩
set_option maxRecDepth 20000 in
theorem me_X8_steals : e_me yX8_steals cX8_steals 7 (some .long) 2 := ⟨e_in 1509 (by decide +kernel) (by decide +kernel), by decide, ⟨by decide +kernel, by decide +kernel⟩, by decide +kernel, e_in 105 (by decide +kernel) (by decide +kernel)⟩
set_option maxRecDepth 20000 in
theorem mlX8_257 : Cond.methodLink RX8 257 yX8_steals ∈ e_tbl := e_in 1506 (by decide +kernel) (by decide +kernel)
set_option maxRecDepth 20000 in
theorem im_X8_steals : Cond.instanceMethod yX8_steals ∈ e_tbl := e_in 1508 (by decide +kernel) (by decide +kernel)
set_option maxRecDepth 20000 in
theorem se_X8_steals : Cond.selects yX8_steals.cls yX8_steals yX8_steals ∈ e_tbl := e_in 76 (by decide +kernel) (by decide +kernel)
set_option maxRecDepth 20000 in
theorem me_X8_canChoose : e_me yX8_canChoose cX8_canChoose 3 (some .boolean) 3 := ⟨e_in 1496 (by decide +kernel) (by decide +kernel), by decide, ⟨by decide +kernel, by decide +kernel⟩, by decide +kernel, e_in 105 (by decide +kernel) (by decide +kernel)⟩
set_option maxRecDepth 20000 in
theorem sm_X8_canChoose : Cond.static yX8_canChoose ∈ e_tbl := e_in 1495 (by decide +kernel) (by decide +kernel)
set_option maxRecDepth 20000 in
theorem mlX8_260 : Cond.methodLink RX8 260 yX8_canChoose ∈ e_tbl := e_in 1494 (by decide +kernel) (by decide +kernel)
set_option maxRecDepth 20000 in
theorem me_X8_by : e_me yX8_by cX8_by 4 (some .long) 3 := ⟨e_in 1500 (by decide +kernel) (by decide +kernel), by decide, ⟨by decide +kernel, by decide +kernel⟩, by decide +kernel, e_in 105 (by decide +kernel) (by decide +kernel)⟩
set_option maxRecDepth 20000 in
theorem mlX8_263 : Cond.methodLink RX8 263 yX8_by ∈ e_tbl := e_in 1497 (by decide +kernel) (by decide +kernel)
set_option maxRecDepth 20000 in
theorem im_X8_by : Cond.instanceMethod yX8_by ∈ e_tbl := e_in 1499 (by decide +kernel) (by decide +kernel)
set_option maxRecDepth 20000 in
theorem se_X8_by : Cond.selects yX8_by.cls yX8_by yX8_by ∈ e_tbl := e_in 74 (by decide +kernel) (by decide +kernel)
set_option maxRecDepth 20000 in
theorem fk8_36 : e_fk RX8 36 8 24 "[I" := ⟨by decide, by decide, by decide +kernel, e_in 1208 (by decide +kernel) (by decide +kernel)⟩
set_option maxRecDepth 20000 in
theorem gr_83_24 : gR 83 24 = some 91 := rfl
set_option maxRecDepth 20000 in
theorem ar_91 : e_ar gN 91 9 24 := by unfold e_ar; decide
set_option maxRecDepth 20000 in
theorem fk8_29 : e_fk RX8 29 8 22 "[J" := ⟨by decide, by decide, by decide +kernel, e_in 1206 (by decide +kernel) (by decide +kernel)⟩
set_option maxRecDepth 20000 in
theorem gr_83_22 : gR 83 22 = some 89 := rfl
set_option maxRecDepth 20000 in
theorem ar_89 : e_ar gN 89 12 24 := by unfold e_ar; decide
set_option maxRecDepth 20000 in
theorem clX8_266 : Cond.constantLong RX8 266 (400) ∈ e_tbl := e_in 1518 (by decide +kernel) (by decide +kernel)
set_option maxRecDepth 20000 in
theorem me_X8_laysShares : e_me yX8_laysShares cX8_laysShares 6 none 3 := ⟨e_in 1481 (by decide +kernel) (by decide +kernel), by decide, ⟨by decide +kernel, by decide +kernel⟩, by decide +kernel, e_in 105 (by decide +kernel) (by decide +kernel)⟩
set_option maxRecDepth 20000 in
theorem mlX8_268 : Cond.methodLink RX8 268 yX8_laysShares ∈ e_tbl := e_in 1478 (by decide +kernel) (by decide +kernel)
set_option maxRecDepth 20000 in
theorem im_X8_laysShares : Cond.instanceMethod yX8_laysShares ∈ e_tbl := e_in 1480 (by decide +kernel) (by decide +kernel)
set_option maxRecDepth 20000 in
theorem se_X8_laysShares : Cond.selects yX8_laysShares.cls yX8_laysShares yX8_laysShares ∈ e_tbl := e_in 70 (by decide +kernel) (by decide +kernel)
set_option maxRecDepth 20000 in
theorem me_X8_scale : e_me yX8_scale cX8_scale 2 (some .long) 1 := ⟨e_in 1517 (by decide +kernel) (by decide +kernel), by decide, ⟨by decide +kernel, by decide +kernel⟩, by decide +kernel, e_in 105 (by decide +kernel) (by decide +kernel)⟩
set_option maxRecDepth 20000 in
theorem mlX8_274 : Cond.methodLink RX8 274 yX8_scale ∈ e_tbl := e_in 1514 (by decide +kernel) (by decide +kernel)
set_option maxRecDepth 20000 in
theorem im_X8_scale : Cond.instanceMethod yX8_scale ∈ e_tbl := e_in 1516 (by decide +kernel) (by decide +kernel)
set_option maxRecDepth 20000 in
theorem se_X8_scale : Cond.selects yX8_scale.cls yX8_scale yX8_scale ∈ e_tbl := e_in 78 (by decide +kernel) (by decide +kernel)
set_option maxRecDepth 20000 in
theorem ff8_26 : ((e_cl 8).2.1 26).2.2.2 = false := by decide +kernel
set_option maxRecDepth 20000 in
theorem me_X8_laysState : e_me yX8_laysState cX8_laysState 8 none 2 := ⟨e_in 1485 (by decide +kernel) (by decide +kernel), by decide, ⟨by decide +kernel, by decide +kernel⟩, by decide +kernel, e_in 105 (by decide +kernel) (by decide +kernel)⟩
set_option maxRecDepth 20000 in
theorem mlX8_271 : Cond.methodLink RX8 271 yX8_laysState ∈ e_tbl := e_in 1482 (by decide +kernel) (by decide +kernel)
set_option maxRecDepth 20000 in
theorem im_X8_laysState : Cond.instanceMethod yX8_laysState ∈ e_tbl := e_in 1484 (by decide +kernel) (by decide +kernel)
set_option maxRecDepth 20000 in
theorem se_X8_laysState : Cond.selects yX8_laysState.cls yX8_laysState yX8_laysState ∈ e_tbl := e_in 71 (by decide +kernel) (by decide +kernel)
set_option maxRecDepth 20000 in
theorem ff8_27 : ((e_cl 8).2.1 27).2.2.2 = false := by decide +kernel
set_option maxRecDepth 20000 in
theorem me_X8_laysOut : e_me yX8_laysOut cX8_laysOut 10 none 6 := ⟨e_in 1477 (by decide +kernel) (by decide +kernel), by decide, ⟨by decide +kernel, by decide +kernel⟩, by decide +kernel, e_in 105 (by decide +kernel) (by decide +kernel)⟩
set_option maxRecDepth 20000 in
theorem mlX8_278 : Cond.methodLink RX8 278 yX8_laysOut ∈ e_tbl := e_in 1474 (by decide +kernel) (by decide +kernel)
set_option maxRecDepth 20000 in
theorem im_X8_laysOut : Cond.instanceMethod yX8_laysOut ∈ e_tbl := e_in 1476 (by decide +kernel) (by decide +kernel)
set_option maxRecDepth 20000 in
theorem se_X8_laysOut : Cond.selects yX8_laysOut.cls yX8_laysOut yX8_laysOut ∈ e_tbl := e_in 69 (by decide +kernel) (by decide +kernel)
set_option maxRecDepth 20000 in
theorem me_X8_common : e_me yX8_common cX8_common 10 (some .long) 2 := ⟨e_in 1524 (by decide +kernel) (by decide +kernel), by decide, ⟨by decide +kernel, by decide +kernel⟩, by decide +kernel, e_in 105 (by decide +kernel) (by decide +kernel)⟩
set_option maxRecDepth 20000 in
theorem sm_X8_common : Cond.static yX8_common ∈ e_tbl := e_in 1523 (by decide +kernel) (by decide +kernel)
set_option maxRecDepth 20000 in
theorem mlX8_282 : Cond.methodLink RX8 282 yX8_common ∈ e_tbl := e_in 1522 (by decide +kernel) (by decide +kernel)
set_option maxRecDepth 20000 in
theorem me_X8_whyNot : e_me yX8_whyNot cX8_whyNot 5 (some .int) 4 := ⟨e_in 1468 (by decide +kernel) (by decide +kernel), by decide, ⟨by decide +kernel, by decide +kernel⟩, by decide +kernel, e_in 105 (by decide +kernel) (by decide +kernel)⟩
set_option maxRecDepth 20000 in
theorem mlX8_286 : Cond.methodLink RX8 286 yX8_whyNot ∈ e_tbl := e_in 1465 (by decide +kernel) (by decide +kernel)
set_option maxRecDepth 20000 in
theorem im_X8_whyNot : Cond.instanceMethod yX8_whyNot ∈ e_tbl := e_in 1467 (by decide +kernel) (by decide +kernel)
set_option maxRecDepth 20000 in
theorem se_X8_whyNot : Cond.selects yX8_whyNot.cls yX8_whyNot yX8_whyNot ∈ e_tbl := e_in 67 (by decide +kernel) (by decide +kernel)
set_option maxRecDepth 20000 in
theorem me_X8_laysNow : e_me yX8_laysNow cX8_laysNow 3 none 2 := ⟨e_in 1473 (by decide +kernel) (by decide +kernel), by decide, ⟨by decide +kernel, by decide +kernel⟩, by decide +kernel, e_in 105 (by decide +kernel) (by decide +kernel)⟩
set_option maxRecDepth 20000 in
theorem mlX8_292 : Cond.methodLink RX8 292 yX8_laysNow ∈ e_tbl := e_in 1470 (by decide +kernel) (by decide +kernel)
set_option maxRecDepth 20000 in
theorem im_X8_laysNow : Cond.instanceMethod yX8_laysNow ∈ e_tbl := e_in 1472 (by decide +kernel) (by decide +kernel)
set_option maxRecDepth 20000 in
theorem se_X8_laysNow : Cond.selects yX8_laysNow.cls yX8_laysNow yX8_laysNow ∈ e_tbl := e_in 68 (by decide +kernel) (by decide +kernel)
set_option maxRecDepth 20000 in
theorem me_X8_part : e_me yX8_part cX8_part 5 (some .long) 3 := ⟨e_in 1521 (by decide +kernel) (by decide +kernel), by decide, ⟨by decide +kernel, by decide +kernel⟩, by decide +kernel, e_in 105 (by decide +kernel) (by decide +kernel)⟩
set_option maxRecDepth 20000 in
theorem sm_X8_part : Cond.static yX8_part ∈ e_tbl := e_in 1520 (by decide +kernel) (by decide +kernel)
set_option maxRecDepth 20000 in
theorem mlX8_295 : Cond.methodLink RX8 295 yX8_part ∈ e_tbl := e_in 1519 (by decide +kernel) (by decide +kernel)
set_option maxRecDepth 20000 in
theorem clX8_290 : Cond.constantLong RX8 290 (-1) ∈ e_tbl := e_in 1469 (by decide +kernel) (by decide +kernel)
set_option maxRecDepth 20000 in
theorem me_X8_toCome : e_me yX8_toCome cX8_toCome 6 (some .long) 5 := ⟨e_in 1464 (by decide +kernel) (by decide +kernel), by decide, ⟨by decide +kernel, by decide +kernel⟩, by decide +kernel, e_in 105 (by decide +kernel) (by decide +kernel)⟩
set_option maxRecDepth 20000 in
theorem mlX8_299 : Cond.methodLink RX8 299 yX8_toCome ∈ e_tbl := e_in 1461 (by decide +kernel) (by decide +kernel)
set_option maxRecDepth 20000 in
theorem im_X8_toCome : Cond.instanceMethod yX8_toCome ∈ e_tbl := e_in 1463 (by decide +kernel) (by decide +kernel)
set_option maxRecDepth 20000 in
theorem se_X8_toCome : Cond.selects yX8_toCome.cls yX8_toCome yX8_toCome ∈ e_tbl := e_in 66 (by decide +kernel) (by decide +kernel)
set_option maxRecDepth 20000 in
theorem me_X8_worthOf : e_me yX8_worthOf cX8_worthOf 4 (some .long) 3 := ⟨e_in 1556 (by decide +kernel) (by decide +kernel), by decide, ⟨by decide +kernel, by decide +kernel⟩, by decide +kernel, e_in 105 (by decide +kernel) (by decide +kernel)⟩
set_option maxRecDepth 20000 in
theorem mlX8_303 : Cond.methodLink RX8 303 yX8_worthOf ∈ e_tbl := e_in 1553 (by decide +kernel) (by decide +kernel)
set_option maxRecDepth 20000 in
theorem im_X8_worthOf : Cond.instanceMethod yX8_worthOf ∈ e_tbl := e_in 1555 (by decide +kernel) (by decide +kernel)
set_option maxRecDepth 20000 in
theorem se_X8_worthOf : Cond.selects yX8_worthOf.cls yX8_worthOf yX8_worthOf ∈ e_tbl := e_in 79 (by decide +kernel) (by decide +kernel)
set_option maxRecDepth 20000 in
theorem fk8_42 : e_fk RX8 42 8 28 "[I" := ⟨by decide, by decide, by decide +kernel, e_in 1212 (by decide +kernel) (by decide +kernel)⟩
set_option maxRecDepth 20000 in
theorem gr_83_28 : gR 83 28 = some 93 := rfl
set_option maxRecDepth 20000 in
theorem ar_93 : e_ar gN 93 9 9 := by unfold e_ar; decide
set_option maxRecDepth 20000 in
theorem me_X8_fillsRow : e_me yX8_fillsRow cX8_fillsRow 6 none 3 := ⟨e_in 1568 (by decide +kernel) (by decide +kernel), by decide, ⟨by decide +kernel, by decide +kernel⟩, by decide +kernel, e_in 105 (by decide +kernel) (by decide +kernel)⟩
set_option maxRecDepth 20000 in
theorem mlX8_310 : Cond.methodLink RX8 310 yX8_fillsRow ∈ e_tbl := e_in 1565 (by decide +kernel) (by decide +kernel)
set_option maxRecDepth 20000 in
theorem im_X8_fillsRow : Cond.instanceMethod yX8_fillsRow ∈ e_tbl := e_in 1567 (by decide +kernel) (by decide +kernel)
set_option maxRecDepth 20000 in
theorem se_X8_fillsRow : Cond.selects yX8_fillsRow.cls yX8_fillsRow yX8_fillsRow ∈ e_tbl := e_in 81 (by decide +kernel) (by decide +kernel)
set_option maxRecDepth 20000 in
theorem fk8_307 : e_fk RX8 307 8 30 "J" := ⟨by decide, by decide, by decide +kernel, e_in 1214 (by decide +kernel) (by decide +kernel)⟩
set_option maxRecDepth 20000 in
theorem ff8_30 : ((e_cl 8).2.1 30).2.2.2 = false := by decide +kernel
set_option maxRecDepth 20000 in
theorem fk8_45 : e_fk RX8 45 8 29 "[I" := ⟨by decide, by decide, by decide +kernel, e_in 1213 (by decide +kernel) (by decide +kernel)⟩
set_option maxRecDepth 20000 in
theorem gr_83_29 : gR 83 29 = some 94 := rfl
set_option maxRecDepth 20000 in
theorem me_X8_laysBest : e_me yX8_laysBest cX8_laysBest 2 none 1 := ⟨e_in 1564 (by decide +kernel) (by decide +kernel), by decide, ⟨by decide +kernel, by decide +kernel⟩, by decide +kernel, e_in 105 (by decide +kernel) (by decide +kernel)⟩
set_option maxRecDepth 20000 in
theorem mlX8_313 : Cond.methodLink RX8 313 yX8_laysBest ∈ e_tbl := e_in 1561 (by decide +kernel) (by decide +kernel)
set_option maxRecDepth 20000 in
theorem im_X8_laysBest : Cond.instanceMethod yX8_laysBest ∈ e_tbl := e_in 1563 (by decide +kernel) (by decide +kernel)
set_option maxRecDepth 20000 in
theorem se_X8_laysBest : Cond.selects yX8_laysBest.cls yX8_laysBest yX8_laysBest ∈ e_tbl := e_in 80 (by decide +kernel) (by decide +kernel)
set_option maxRecDepth 20000 in
theorem ar_94 : e_ar gN 94 9 9 := by unfold e_ar; decide
set_option maxRecDepth 20000 in
theorem me_X8_changes : e_me yX8_changes cX8_changes 5 none 3 := ⟨e_in 1580 (by decide +kernel) (by decide +kernel), by decide, ⟨by decide +kernel, by decide +kernel⟩, by decide +kernel, e_in 105 (by decide +kernel) (by decide +kernel)⟩
set_option maxRecDepth 20000 in
theorem mlX8_316 : Cond.methodLink RX8 316 yX8_changes ∈ e_tbl := e_in 1577 (by decide +kernel) (by decide +kernel)
set_option maxRecDepth 20000 in
theorem im_X8_changes : Cond.instanceMethod yX8_changes ∈ e_tbl := e_in 1579 (by decide +kernel) (by decide +kernel)
set_option maxRecDepth 20000 in
theorem se_X8_changes : Cond.selects yX8_changes.cls yX8_changes yX8_changes ∈ e_tbl := e_in 82 (by decide +kernel) (by decide +kernel)
set_option maxRecDepth 20000 in
theorem me_X8_addedBy : e_me yX8_addedBy cX8_addedBy 4 (some .long) 1 := ⟨e_in 1592 (by decide +kernel) (by decide +kernel), by decide, ⟨by decide +kernel, by decide +kernel⟩, by decide +kernel, e_in 105 (by decide +kernel) (by decide +kernel)⟩
set_option maxRecDepth 20000 in
theorem mlX8_320 : Cond.methodLink RX8 320 yX8_addedBy ∈ e_tbl := e_in 1589 (by decide +kernel) (by decide +kernel)
set_option maxRecDepth 20000 in
theorem im_X8_addedBy : Cond.instanceMethod yX8_addedBy ∈ e_tbl := e_in 1591 (by decide +kernel) (by decide +kernel)
set_option maxRecDepth 20000 in
theorem se_X8_addedBy : Cond.selects yX8_addedBy.cls yX8_addedBy yX8_addedBy ∈ e_tbl := e_in 83 (by decide +kernel) (by decide +kernel)
set_option maxRecDepth 20000 in
theorem me_X8_addedByAll : e_me yX8_addedByAll cX8_addedByAll 7 (some .long) 3 := ⟨e_in 1600 (by decide +kernel) (by decide +kernel), by decide, ⟨by decide +kernel, by decide +kernel⟩, by decide +kernel, e_in 105 (by decide +kernel) (by decide +kernel)⟩
set_option maxRecDepth 20000 in
theorem mlX8_323 : Cond.methodLink RX8 323 yX8_addedByAll ∈ e_tbl := e_in 1597 (by decide +kernel) (by decide +kernel)
set_option maxRecDepth 20000 in
theorem im_X8_addedByAll : Cond.instanceMethod yX8_addedByAll ∈ e_tbl := e_in 1599 (by decide +kernel) (by decide +kernel)
set_option maxRecDepth 20000 in
theorem se_X8_addedByAll : Cond.selects yX8_addedByAll.cls yX8_addedByAll yX8_addedByAll ∈ e_tbl := e_in 84 (by decide +kernel) (by decide +kernel)
set_option maxRecDepth 20000 in
theorem me_X8_logs : e_me yX8_logs cX8_logs 3 none 1 := ⟨e_in 1631 (by decide +kernel) (by decide +kernel), by decide, ⟨by decide +kernel, by decide +kernel⟩, by decide +kernel, e_in 105 (by decide +kernel) (by decide +kernel)⟩
set_option maxRecDepth 20000 in
theorem mlX8_326 : Cond.methodLink RX8 326 yX8_logs ∈ e_tbl := e_in 1628 (by decide +kernel) (by decide +kernel)
set_option maxRecDepth 20000 in
theorem im_X8_logs : Cond.instanceMethod yX8_logs ∈ e_tbl := e_in 1630 (by decide +kernel) (by decide +kernel)
set_option maxRecDepth 20000 in
theorem se_X8_logs : Cond.selects yX8_logs.cls yX8_logs yX8_logs ∈ e_tbl := e_in 89 (by decide +kernel) (by decide +kernel)
set_option maxRecDepth 20000 in
theorem fk8_329 : e_fk RX8 329 8 31 "J" := ⟨by decide, by decide, by decide +kernel, e_in 1215 (by decide +kernel) (by decide +kernel)⟩
set_option maxRecDepth 20000 in
theorem clX8_332 : Cond.constantLong RX8 332 (16807) ∈ e_tbl := e_in 1622 (by decide +kernel) (by decide +kernel)
set_option maxRecDepth 20000 in
theorem clX8_334 : Cond.constantLong RX8 334 (2147483647) ∈ e_tbl := e_in 1623 (by decide +kernel) (by decide +kernel)
set_option maxRecDepth 20000 in
theorem ff8_31 : ((e_cl 8).2.1 31).2.2.2 = false := by decide +kernel
set_option maxRecDepth 20000 in
theorem me_X8_draws : e_me yX8_draws cX8_draws 1 (some .int) 0 := ⟨e_in 1621 (by decide +kernel) (by decide +kernel), by decide, ⟨by decide +kernel, by decide +kernel⟩, by decide +kernel, e_in 105 (by decide +kernel) (by decide +kernel)⟩
set_option maxRecDepth 20000 in
theorem mlX8_339 : Cond.methodLink RX8 339 yX8_draws ∈ e_tbl := e_in 1618 (by decide +kernel) (by decide +kernel)
set_option maxRecDepth 20000 in
theorem im_X8_draws : Cond.instanceMethod yX8_draws ∈ e_tbl := e_in 1620 (by decide +kernel) (by decide +kernel)
set_option maxRecDepth 20000 in
theorem se_X8_draws : Cond.selects yX8_draws.cls yX8_draws yX8_draws ∈ e_tbl := e_in 87 (by decide +kernel) (by decide +kernel)
set_option maxRecDepth 20000 in
theorem me_X8_happens : e_me yX8_happens cX8_happens 2 (some .int) 1 := ⟨e_in 1627 (by decide +kernel) (by decide +kernel), by decide, ⟨by decide +kernel, by decide +kernel⟩, by decide +kernel, e_in 105 (by decide +kernel) (by decide +kernel)⟩
set_option maxRecDepth 20000 in
theorem mlX8_342 : Cond.methodLink RX8 342 yX8_happens ∈ e_tbl := e_in 1624 (by decide +kernel) (by decide +kernel)
set_option maxRecDepth 20000 in
theorem im_X8_happens : Cond.instanceMethod yX8_happens ∈ e_tbl := e_in 1626 (by decide +kernel) (by decide +kernel)
set_option maxRecDepth 20000 in
theorem se_X8_happens : Cond.selects yX8_happens.cls yX8_happens yX8_happens ∈ e_tbl := e_in 88 (by decide +kernel) (by decide +kernel)
set_option maxRecDepth 20000 in
theorem me_X8_chooses : e_me yX8_chooses cX8_chooses 3 (some .int) 1 := ⟨e_in 1617 (by decide +kernel) (by decide +kernel), by decide, ⟨by decide +kernel, by decide +kernel⟩, by decide +kernel, e_in 105 (by decide +kernel) (by decide +kernel)⟩
set_option maxRecDepth 20000 in
theorem mlX8_336 : Cond.methodLink RX8 336 yX8_chooses ∈ e_tbl := e_in 1614 (by decide +kernel) (by decide +kernel)
set_option maxRecDepth 20000 in
theorem im_X8_chooses : Cond.instanceMethod yX8_chooses ∈ e_tbl := e_in 1616 (by decide +kernel) (by decide +kernel)
set_option maxRecDepth 20000 in
theorem se_X8_chooses : Cond.selects yX8_chooses.cls yX8_chooses yX8_chooses ∈ e_tbl := e_in 86 (by decide +kernel) (by decide +kernel)
set_option maxRecDepth 20000 in
theorem cnX8_345 : Cond.constant RX8 345 (2147483646) ∈ e_tbl := e_in 1609 (by decide +kernel) (by decide +kernel)
set_option maxRecDepth 20000 in
theorem fk8_48 : e_fk RX8 48 8 32 "[I" := ⟨by decide, by decide, by decide +kernel, e_in 1216 (by decide +kernel) (by decide +kernel)⟩
set_option maxRecDepth 20000 in
theorem gr_83_32 : gR 83 32 = some 95 := rfl
set_option maxRecDepth 20000 in
theorem me_X8_turn : e_me yX8_turn cX8_turn 7 (some .int) 1 := ⟨e_in 1613 (by decide +kernel) (by decide +kernel), by decide, ⟨by decide +kernel, by decide +kernel⟩, by decide +kernel, e_in 105 (by decide +kernel) (by decide +kernel)⟩
set_option maxRecDepth 20000 in
theorem mlX8_346 : Cond.methodLink RX8 346 yX8_turn ∈ e_tbl := e_in 1610 (by decide +kernel) (by decide +kernel)
set_option maxRecDepth 20000 in
theorem im_X8_turn : Cond.instanceMethod yX8_turn ∈ e_tbl := e_in 1612 (by decide +kernel) (by decide +kernel)
set_option maxRecDepth 20000 in
theorem se_X8_turn : Cond.selects yX8_turn.cls yX8_turn yX8_turn ∈ e_tbl := e_in 85 (by decide +kernel) (by decide +kernel)
set_option maxRecDepth 20000 in
theorem fk8_51 : e_fk RX8 51 8 34 "[I" := ⟨by decide, by decide, by decide +kernel, e_in 1218 (by decide +kernel) (by decide +kernel)⟩
set_option maxRecDepth 20000 in
theorem gr_83_34 : gR 83 34 = some 96 := rfl
set_option maxRecDepth 20000 in
theorem ar_96 : e_ar gN 96 9 3960 := by unfold e_ar; decide
set_option maxRecDepth 20000 in
theorem me_X8_remembers : e_me yX8_remembers cX8_remembers 2 none 0 := ⟨e_in 1639 (by decide +kernel) (by decide +kernel), by decide, ⟨by decide +kernel, by decide +kernel⟩, by decide +kernel, e_in 105 (by decide +kernel) (by decide +kernel)⟩
set_option maxRecDepth 20000 in
theorem mlX8_349 : Cond.methodLink RX8 349 yX8_remembers ∈ e_tbl := e_in 1636 (by decide +kernel) (by decide +kernel)
set_option maxRecDepth 20000 in
theorem im_X8_remembers : Cond.instanceMethod yX8_remembers ∈ e_tbl := e_in 1638 (by decide +kernel) (by decide +kernel)
set_option maxRecDepth 20000 in
theorem se_X8_remembers : Cond.selects yX8_remembers.cls yX8_remembers yX8_remembers ∈ e_tbl := e_in 90 (by decide +kernel) (by decide +kernel)
set_option maxRecDepth 20000 in
theorem me_X8_betters : e_me yX8_betters cX8_betters 10 (some .boolean) 1 := ⟨e_in 1667 (by decide +kernel) (by decide +kernel), by decide, ⟨by decide +kernel, by decide +kernel⟩, by decide +kernel, e_in 105 (by decide +kernel) (by decide +kernel)⟩
set_option maxRecDepth 20000 in
theorem mlX8_352 : Cond.methodLink RX8 352 yX8_betters ∈ e_tbl := e_in 1664 (by decide +kernel) (by decide +kernel)
set_option maxRecDepth 20000 in
theorem im_X8_betters : Cond.instanceMethod yX8_betters ∈ e_tbl := e_in 1666 (by decide +kernel) (by decide +kernel)
set_option maxRecDepth 20000 in
theorem se_X8_betters : Cond.selects yX8_betters.cls yX8_betters yX8_betters ∈ e_tbl := e_in 91 (by decide +kernel) (by decide +kernel)
