set_option maxRecDepth 20000 in
theorem mlL_19 : Cond.methodLink RL 19 yX7_feed ∈ e_tbl := e_in 439 (by decide +kernel) (by decide +kernel)
set_option maxRecDepth 20000 in
theorem im_X7_feed : Cond.instanceMethod yX7_feed ∈ e_tbl := e_in 440 (by decide +kernel) (by decide +kernel)
set_option maxRecDepth 20000 in
theorem se_X7_feed : Cond.selects yX7_feed.cls yX7_feed yX7_feed ∈ e_tbl := e_in 441 (by decide +kernel) (by decide +kernel)
set_option maxRecDepth 20000 in
theorem me_X7_feed : e_me yX7_feed cX7_feed 6 (some .int) 5 := ⟨e_in 442 (by decide +kernel) (by decide +kernel), by decide, ⟨by decide +kernel, by decide +kernel⟩, by decide +kernel, e_in 93 (by decide +kernel) (by decide +kernel)⟩
set_option maxRecDepth 20000 in
theorem mlL_23 : Cond.methodLink RL 23 yX8_feed ∈ e_tbl := e_in 1294 (by decide +kernel) (by decide +kernel)
set_option maxRecDepth 20000 in
theorem im_X8_feed : Cond.instanceMethod yX8_feed ∈ e_tbl := e_in 1295 (by decide +kernel) (by decide +kernel)
set_option maxRecDepth 20000 in
theorem se_X8_feed : Cond.selects yX8_feed.cls yX8_feed yX8_feed ∈ e_tbl := e_in 1296 (by decide +kernel) (by decide +kernel)
set_option maxRecDepth 20000 in
theorem me_X8_feed : e_me yX8_feed cX8_feed 6 (some .int) 5 := ⟨e_in 1297 (by decide +kernel) (by decide +kernel), by decide, ⟨by decide +kernel, by decide +kernel⟩, by decide +kernel, e_in 105 (by decide +kernel) (by decide +kernel)⟩
set_option maxRecDepth 20000 in
theorem mlL_24 : Cond.methodLink RL 24 yX7_text ∈ e_tbl := e_in 447 (by decide +kernel) (by decide +kernel)
set_option maxRecDepth 20000 in
theorem im_X7_text : Cond.instanceMethod yX7_text ∈ e_tbl := e_in 448 (by decide +kernel) (by decide +kernel)
set_option maxRecDepth 20000 in
theorem se_X7_text : Cond.selects yX7_text.cls yX7_text yX7_text ∈ e_tbl := e_in 449 (by decide +kernel) (by decide +kernel)
set_option maxRecDepth 20000 in
theorem me_X7_text : e_me yX7_text cX7_text 2 (some .int) 1 := ⟨e_in 450 (by decide +kernel) (by decide +kernel), by decide, ⟨by decide +kernel, by decide +kernel⟩, by decide +kernel, e_in 93 (by decide +kernel) (by decide +kernel)⟩
set_option maxRecDepth 20000 in
theorem mlL_27 : Cond.methodLink RL 27 yX8_text ∈ e_tbl := e_in 1302 (by decide +kernel) (by decide +kernel)
set_option maxRecDepth 20000 in
theorem im_X8_text : Cond.instanceMethod yX8_text ∈ e_tbl := e_in 1303 (by decide +kernel) (by decide +kernel)
set_option maxRecDepth 20000 in
theorem se_X8_text : Cond.selects yX8_text.cls yX8_text yX8_text ∈ e_tbl := e_in 1304 (by decide +kernel) (by decide +kernel)
set_option maxRecDepth 20000 in
theorem me_X8_text : e_me yX8_text cX8_text 2 (some .int) 1 := ⟨e_in 1305 (by decide +kernel) (by decide +kernel), by decide, ⟨by decide +kernel, by decide +kernel⟩, by decide +kernel, e_in 105 (by decide +kernel) (by decide +kernel)⟩
set_option maxRecDepth 20000 in
theorem mlL_28 : Cond.methodLink RL 28 yX7_fault ∈ e_tbl := e_in 593 (by decide +kernel) (by decide +kernel)
set_option maxRecDepth 20000 in
theorem im_X7_fault : Cond.instanceMethod yX7_fault ∈ e_tbl := e_in 594 (by decide +kernel) (by decide +kernel)
set_option maxRecDepth 20000 in
theorem se_X7_fault : Cond.selects yX7_fault.cls yX7_fault yX7_fault ∈ e_tbl := e_in 595 (by decide +kernel) (by decide +kernel)
set_option maxRecDepth 20000 in
theorem me_X7_fault : e_me yX7_fault cX7_fault 1 (some .int) 0 := ⟨e_in 596 (by decide +kernel) (by decide +kernel), by decide, ⟨by decide +kernel, by decide +kernel⟩, by decide +kernel, e_in 93 (by decide +kernel) (by decide +kernel)⟩
set_option maxRecDepth 20000 in
theorem mlL_32 : Cond.methodLink RL 32 yX8_fault ∈ e_tbl := e_in 1384 (by decide +kernel) (by decide +kernel)
set_option maxRecDepth 20000 in
theorem im_X8_fault : Cond.instanceMethod yX8_fault ∈ e_tbl := e_in 1385 (by decide +kernel) (by decide +kernel)
set_option maxRecDepth 20000 in
theorem se_X8_fault : Cond.selects yX8_fault.cls yX8_fault yX8_fault ∈ e_tbl := e_in 1386 (by decide +kernel) (by decide +kernel)
set_option maxRecDepth 20000 in
theorem me_X8_fault : e_me yX8_fault cX8_fault 1 (some .int) 0 := ⟨e_in 1387 (by decide +kernel) (by decide +kernel), by decide, ⟨by decide +kernel, by decide +kernel⟩, by decide +kernel, e_in 105 (by decide +kernel) (by decide +kernel)⟩
set_option maxRecDepth 20000 in
theorem mlL_33 : Cond.methodLink RL 33 yX7_where ∈ e_tbl := e_in 597 (by decide +kernel) (by decide +kernel)
set_option maxRecDepth 20000 in
theorem im_X7_where : Cond.instanceMethod yX7_where ∈ e_tbl := e_in 598 (by decide +kernel) (by decide +kernel)
set_option maxRecDepth 20000 in
theorem se_X7_where : Cond.selects yX7_where.cls yX7_where yX7_where ∈ e_tbl := e_in 599 (by decide +kernel) (by decide +kernel)
set_option maxRecDepth 20000 in
theorem me_X7_where : e_me yX7_where cX7_where 1 (some .int) 0 := ⟨e_in 600 (by decide +kernel) (by decide +kernel), by decide, ⟨by decide +kernel, by decide +kernel⟩, by decide +kernel, e_in 93 (by decide +kernel) (by decide +kernel)⟩
set_option maxRecDepth 20000 in
theorem mlL_36 : Cond.methodLink RL 36 yX8_where ∈ e_tbl := e_in 1388 (by decide +kernel) (by decide +kernel)
set_option maxRecDepth 20000 in
theorem im_X8_where : Cond.instanceMethod yX8_where ∈ e_tbl := e_in 1389 (by decide +kernel) (by decide +kernel)
set_option maxRecDepth 20000 in
theorem se_X8_where : Cond.selects yX8_where.cls yX8_where yX8_where ∈ e_tbl := e_in 1390 (by decide +kernel) (by decide +kernel)
set_option maxRecDepth 20000 in
theorem me_X8_where : e_me yX8_where cX8_where 1 (some .int) 0 := ⟨e_in 1391 (by decide +kernel) (by decide +kernel), by decide, ⟨by decide +kernel, by decide +kernel⟩, by decide +kernel, e_in 105 (by decide +kernel) (by decide +kernel)⟩
set_option maxRecDepth 20000 in
theorem mlL_37 : Cond.methodLink RL 37 yX7_about ∈ e_tbl := e_in 601 (by decide +kernel) (by decide +kernel)
set_option maxRecDepth 20000 in
theorem im_X7_about : Cond.instanceMethod yX7_about ∈ e_tbl := e_in 602 (by decide +kernel) (by decide +kernel)
set_option maxRecDepth 20000 in
theorem se_X7_about : Cond.selects yX7_about.cls yX7_about yX7_about ∈ e_tbl := e_in 603 (by decide +kernel) (by decide +kernel)
set_option maxRecDepth 20000 in
theorem me_X7_about : e_me yX7_about cX7_about 2 (some .int) 1 := ⟨e_in 604 (by decide +kernel) (by decide +kernel), by decide, ⟨by decide +kernel, by decide +kernel⟩, by decide +kernel, e_in 93 (by decide +kernel) (by decide +kernel)⟩
set_option maxRecDepth 20000 in
theorem mlL_40 : Cond.methodLink RL 40 yX8_about ∈ e_tbl := e_in 1392 (by decide +kernel) (by decide +kernel)
set_option maxRecDepth 20000 in
theorem im_X8_about : Cond.instanceMethod yX8_about ∈ e_tbl := e_in 1393 (by decide +kernel) (by decide +kernel)
set_option maxRecDepth 20000 in
theorem se_X8_about : Cond.selects yX8_about.cls yX8_about yX8_about ∈ e_tbl := e_in 1394 (by decide +kernel) (by decide +kernel)
set_option maxRecDepth 20000 in
theorem me_X8_about : e_me yX8_about cX8_about 2 (some .int) 1 := ⟨e_in 1395 (by decide +kernel) (by decide +kernel), by decide, ⟨by decide +kernel, by decide +kernel⟩, by decide +kernel, e_in 105 (by decide +kernel) (by decide +kernel)⟩
set_option maxRecDepth 20000 in
theorem mlL_41 : Cond.methodLink RL 41 yX7_rule ∈ e_tbl := e_in 611 (by decide +kernel) (by decide +kernel)
set_option maxRecDepth 20000 in
theorem im_X7_rule : Cond.instanceMethod yX7_rule ∈ e_tbl := e_in 612 (by decide +kernel) (by decide +kernel)
set_option maxRecDepth 20000 in
theorem se_X7_rule : Cond.selects yX7_rule.cls yX7_rule yX7_rule ∈ e_tbl := e_in 613 (by decide +kernel) (by decide +kernel)
set_option maxRecDepth 20000 in
theorem me_X7_rule : e_me yX7_rule cX7_rule 2 (some .int) 1 := ⟨e_in 614 (by decide +kernel) (by decide +kernel), by decide, ⟨by decide +kernel, by decide +kernel⟩, by decide +kernel, e_in 93 (by decide +kernel) (by decide +kernel)⟩
set_option maxRecDepth 20000 in
theorem mlL_44 : Cond.methodLink RL 44 yX8_rule ∈ e_tbl := e_in 1399 (by decide +kernel) (by decide +kernel)
set_option maxRecDepth 20000 in
theorem im_X8_rule : Cond.instanceMethod yX8_rule ∈ e_tbl := e_in 1400 (by decide +kernel) (by decide +kernel)
set_option maxRecDepth 20000 in
theorem se_X8_rule : Cond.selects yX8_rule.cls yX8_rule yX8_rule ∈ e_tbl := e_in 1401 (by decide +kernel) (by decide +kernel)
set_option maxRecDepth 20000 in
theorem me_X8_rule : e_me yX8_rule cX8_rule 2 (some .int) 1 := ⟨e_in 1402 (by decide +kernel) (by decide +kernel), by decide, ⟨by decide +kernel, by decide +kernel⟩, by decide +kernel, e_in 105 (by decide +kernel) (by decide +kernel)⟩
set_option maxRecDepth 20000 in
theorem mlL_45 : Cond.methodLink RL 45 yX7_batter ∈ e_tbl := e_in 615 (by decide +kernel) (by decide +kernel)
set_option maxRecDepth 20000 in
theorem im_X7_batter : Cond.instanceMethod yX7_batter ∈ e_tbl := e_in 616 (by decide +kernel) (by decide +kernel)
set_option maxRecDepth 20000 in
theorem se_X7_batter : Cond.selects yX7_batter.cls yX7_batter yX7_batter ∈ e_tbl := e_in 617 (by decide +kernel) (by decide +kernel)
set_option maxRecDepth 20000 in
theorem me_X7_batter : e_me yX7_batter cX7_batter 3 (some .int) 2 := ⟨e_in 618 (by decide +kernel) (by decide +kernel), by decide, ⟨by decide +kernel, by decide +kernel⟩, by decide +kernel, e_in 93 (by decide +kernel) (by decide +kernel)⟩
set_option maxRecDepth 20000 in
theorem mlL_49 : Cond.methodLink RL 49 yX8_batter ∈ e_tbl := e_in 1403 (by decide +kernel) (by decide +kernel)
set_option maxRecDepth 20000 in
theorem im_X8_batter : Cond.instanceMethod yX8_batter ∈ e_tbl := e_in 1404 (by decide +kernel) (by decide +kernel)
set_option maxRecDepth 20000 in
theorem se_X8_batter : Cond.selects yX8_batter.cls yX8_batter yX8_batter ∈ e_tbl := e_in 1405 (by decide +kernel) (by decide +kernel)
set_option maxRecDepth 20000 in
theorem me_X8_batter : e_me yX8_batter cX8_batter 5 (some .int) 2 := ⟨e_in 1406 (by decide +kernel) (by decide +kernel), by decide, ⟨by decide +kernel, by decide +kernel⟩, by decide +kernel, e_in 105 (by decide +kernel) (by decide +kernel)⟩
set_option maxRecDepth 20000 in
theorem mlL_50 : Cond.methodLink RL 50 yX7_place ∈ e_tbl := e_in 647 (by decide +kernel) (by decide +kernel)
set_option maxRecDepth 20000 in
theorem im_X7_place : Cond.instanceMethod yX7_place ∈ e_tbl := e_in 648 (by decide +kernel) (by decide +kernel)
set_option maxRecDepth 20000 in
theorem se_X7_place : Cond.selects yX7_place.cls yX7_place yX7_place ∈ e_tbl := e_in 649 (by decide +kernel) (by decide +kernel)
set_option maxRecDepth 20000 in
theorem me_X7_place : e_me yX7_place cX7_place 2 (some .int) 1 := ⟨e_in 650 (by decide +kernel) (by decide +kernel), by decide, ⟨by decide +kernel, by decide +kernel⟩, by decide +kernel, e_in 93 (by decide +kernel) (by decide +kernel)⟩
set_option maxRecDepth 20000 in
theorem mlL_53 : Cond.methodLink RL 53 yX8_place ∈ e_tbl := e_in 1419 (by decide +kernel) (by decide +kernel)
set_option maxRecDepth 20000 in
theorem im_X8_place : Cond.instanceMethod yX8_place ∈ e_tbl := e_in 1420 (by decide +kernel) (by decide +kernel)
set_option maxRecDepth 20000 in
theorem se_X8_place : Cond.selects yX8_place.cls yX8_place yX8_place ∈ e_tbl := e_in 1421 (by decide +kernel) (by decide +kernel)
set_option maxRecDepth 20000 in
theorem me_X8_place : e_me yX8_place cX8_place 2 (some .int) 1 := ⟨e_in 1422 (by decide +kernel) (by decide +kernel), by decide, ⟨by decide +kernel, by decide +kernel⟩, by decide +kernel, e_in 105 (by decide +kernel) (by decide +kernel)⟩
set_option maxRecDepth 20000 in
theorem mlL_54 : Cond.methodLink RL 54 yX7_coming ∈ e_tbl := e_in 659 (by decide +kernel) (by decide +kernel)
set_option maxRecDepth 20000 in
theorem im_X7_coming : Cond.instanceMethod yX7_coming ∈ e_tbl := e_in 660 (by decide +kernel) (by decide +kernel)
set_option maxRecDepth 20000 in
theorem se_X7_coming : Cond.selects yX7_coming.cls yX7_coming yX7_coming ∈ e_tbl := e_in 661 (by decide +kernel) (by decide +kernel)
set_option maxRecDepth 20000 in
theorem me_X7_coming : e_me yX7_coming cX7_coming 2 (some .int) 1 := ⟨e_in 662 (by decide +kernel) (by decide +kernel), by decide, ⟨by decide +kernel, by decide +kernel⟩, by decide +kernel, e_in 93 (by decide +kernel) (by decide +kernel)⟩
set_option maxRecDepth 20000 in
theorem mlL_57 : Cond.methodLink RL 57 yX8_coming ∈ e_tbl := e_in 1423 (by decide +kernel) (by decide +kernel)
set_option maxRecDepth 20000 in
theorem im_X8_coming : Cond.instanceMethod yX8_coming ∈ e_tbl := e_in 1424 (by decide +kernel) (by decide +kernel)
set_option maxRecDepth 20000 in
theorem se_X8_coming : Cond.selects yX8_coming.cls yX8_coming yX8_coming ∈ e_tbl := e_in 1425 (by decide +kernel) (by decide +kernel)
set_option maxRecDepth 20000 in
theorem me_X8_coming : e_me yX8_coming cX8_coming 2 (some .int) 1 := ⟨e_in 1426 (by decide +kernel) (by decide +kernel), by decide, ⟨by decide +kernel, by decide +kernel⟩, by decide +kernel, e_in 105 (by decide +kernel) (by decide +kernel)⟩
set_option maxRecDepth 20000 in
theorem mlL_58 : Cond.methodLink RL 58 yX7_chance ∈ e_tbl := e_in 673 (by decide +kernel) (by decide +kernel)
set_option maxRecDepth 20000 in
theorem im_X7_chance : Cond.instanceMethod yX7_chance ∈ e_tbl := e_in 674 (by decide +kernel) (by decide +kernel)
set_option maxRecDepth 20000 in
theorem se_X7_chance : Cond.selects yX7_chance.cls yX7_chance yX7_chance ∈ e_tbl := e_in 675 (by decide +kernel) (by decide +kernel)
set_option maxRecDepth 20000 in
theorem me_X7_chance : e_me yX7_chance cX7_chance 4 (some .int) 3 := ⟨e_in 676 (by decide +kernel) (by decide +kernel), by decide, ⟨by decide +kernel, by decide +kernel⟩, by decide +kernel, e_in 93 (by decide +kernel) (by decide +kernel)⟩
set_option maxRecDepth 20000 in
theorem mlL_62 : Cond.methodLink RL 62 yX8_chance ∈ e_tbl := e_in 1427 (by decide +kernel) (by decide +kernel)
set_option maxRecDepth 20000 in
theorem im_X8_chance : Cond.instanceMethod yX8_chance ∈ e_tbl := e_in 1428 (by decide +kernel) (by decide +kernel)
set_option maxRecDepth 20000 in
theorem se_X8_chance : Cond.selects yX8_chance.cls yX8_chance yX8_chance ∈ e_tbl := e_in 1429 (by decide +kernel) (by decide +kernel)
set_option maxRecDepth 20000 in
theorem me_X8_chance : e_me yX8_chance cX8_chance 4 (some .int) 3 := ⟨e_in 1430 (by decide +kernel) (by decide +kernel), by decide, ⟨by decide +kernel, by decide +kernel⟩, by decide +kernel, e_in 105 (by decide +kernel) (by decide +kernel)⟩
set_option maxRecDepth 20000 in
theorem mlL_63 : Cond.methodLink RL 63 yX7_after ∈ e_tbl := e_in 690 (by decide +kernel) (by decide +kernel)
set_option maxRecDepth 20000 in
theorem im_X7_after : Cond.instanceMethod yX7_after ∈ e_tbl := e_in 691 (by decide +kernel) (by decide +kernel)
set_option maxRecDepth 20000 in
theorem se_X7_after : Cond.selects yX7_after.cls yX7_after yX7_after ∈ e_tbl := e_in 692 (by decide +kernel) (by decide +kernel)
set_option maxRecDepth 20000 in
theorem me_X7_after : e_me yX7_after cX7_after 6 (some .int) 4 := ⟨e_in 693 (by decide +kernel) (by decide +kernel), by decide, ⟨by decide +kernel, by decide +kernel⟩, by decide +kernel, e_in 93 (by decide +kernel) (by decide +kernel)⟩
set_option maxRecDepth 20000 in
theorem mlL_67 : Cond.methodLink RL 67 yX8_after ∈ e_tbl := e_in 1435 (by decide +kernel) (by decide +kernel)
set_option maxRecDepth 20000 in
theorem im_X8_after : Cond.instanceMethod yX8_after ∈ e_tbl := e_in 1436 (by decide +kernel) (by decide +kernel)
set_option maxRecDepth 20000 in
theorem se_X8_after : Cond.selects yX8_after.cls yX8_after yX8_after ∈ e_tbl := e_in 1437 (by decide +kernel) (by decide +kernel)
set_option maxRecDepth 20000 in
theorem me_X8_after : e_me yX8_after cX8_after 6 (some .int) 4 := ⟨e_in 1438 (by decide +kernel) (by decide +kernel), by decide, ⟨by decide +kernel, by decide +kernel⟩, by decide +kernel, e_in 105 (by decide +kernel) (by decide +kernel)⟩
set_option maxRecDepth 20000 in
theorem mlL_68 : Cond.methodLink RL 68 yX7_plain ∈ e_tbl := e_in 715 (by decide +kernel) (by decide +kernel)
set_option maxRecDepth 20000 in
theorem im_X7_plain : Cond.instanceMethod yX7_plain ∈ e_tbl := e_in 716 (by decide +kernel) (by decide +kernel)
set_option maxRecDepth 20000 in
theorem se_X7_plain : Cond.selects yX7_plain.cls yX7_plain yX7_plain ∈ e_tbl := e_in 717 (by decide +kernel) (by decide +kernel)
set_option maxRecDepth 20000 in
theorem me_X7_plain : e_me yX7_plain cX7_plain 7 (some .long) 4 := ⟨e_in 718 (by decide +kernel) (by decide +kernel), by decide, ⟨by decide +kernel, by decide +kernel⟩, by decide +kernel, e_in 93 (by decide +kernel) (by decide +kernel)⟩
set_option maxRecDepth 20000 in
theorem mlL_72 : Cond.methodLink RL 72 yX8_plain ∈ e_tbl := e_in 1457 (by decide +kernel) (by decide +kernel)
set_option maxRecDepth 20000 in
theorem im_X8_plain : Cond.instanceMethod yX8_plain ∈ e_tbl := e_in 1458 (by decide +kernel) (by decide +kernel)
set_option maxRecDepth 20000 in
theorem se_X8_plain : Cond.selects yX8_plain.cls yX8_plain yX8_plain ∈ e_tbl := e_in 1459 (by decide +kernel) (by decide +kernel)
set_option maxRecDepth 20000 in
theorem me_X8_plain : e_me yX8_plain cX8_plain 5 (some .long) 4 := ⟨e_in 1460 (by decide +kernel) (by decide +kernel), by decide, ⟨by decide +kernel, by decide +kernel⟩, by decide +kernel, e_in 105 (by decide +kernel) (by decide +kernel)⟩
set_option maxRecDepth 20000 in
theorem mlL_73 : Cond.methodLink RL 73 yX7_any ∈ e_tbl := e_in 769 (by decide +kernel) (by decide +kernel)
set_option maxRecDepth 20000 in
theorem im_X7_any : Cond.instanceMethod yX7_any ∈ e_tbl := e_in 770 (by decide +kernel) (by decide +kernel)
set_option maxRecDepth 20000 in
theorem se_X7_any : Cond.selects yX7_any.cls yX7_any yX7_any ∈ e_tbl := e_in 771 (by decide +kernel) (by decide +kernel)
set_option maxRecDepth 20000 in
theorem me_X7_any : e_me yX7_any cX7_any 7 (some .long) 4 := ⟨e_in 772 (by decide +kernel) (by decide +kernel), by decide, ⟨by decide +kernel, by decide +kernel⟩, by decide +kernel, e_in 93 (by decide +kernel) (by decide +kernel)⟩
set_option maxRecDepth 20000 in
theorem mlL_76 : Cond.methodLink RL 76 yX8_any ∈ e_tbl := e_in 1525 (by decide +kernel) (by decide +kernel)
set_option maxRecDepth 20000 in
theorem im_X8_any : Cond.instanceMethod yX8_any ∈ e_tbl := e_in 1526 (by decide +kernel) (by decide +kernel)
set_option maxRecDepth 20000 in
theorem se_X8_any : Cond.selects yX8_any.cls yX8_any yX8_any ∈ e_tbl := e_in 1527 (by decide +kernel) (by decide +kernel)
set_option maxRecDepth 20000 in
theorem me_X8_any : e_me yX8_any cX8_any 5 (some .long) 4 := ⟨e_in 1528 (by decide +kernel) (by decide +kernel), by decide, ⟨by decide +kernel, by decide +kernel⟩, by decide +kernel, e_in 105 (by decide +kernel) (by decide +kernel)⟩
set_option maxRecDepth 20000 in
theorem mlL_77 : Cond.methodLink RL 77 yX7_wise ∈ e_tbl := e_in 778 (by decide +kernel) (by decide +kernel)
set_option maxRecDepth 20000 in
theorem im_X7_wise : Cond.instanceMethod yX7_wise ∈ e_tbl := e_in 779 (by decide +kernel) (by decide +kernel)
set_option maxRecDepth 20000 in
theorem se_X7_wise : Cond.selects yX7_wise.cls yX7_wise yX7_wise ∈ e_tbl := e_in 780 (by decide +kernel) (by decide +kernel)
set_option maxRecDepth 20000 in
theorem me_X7_wise : e_me yX7_wise cX7_wise 6 (some .long) 4 := ⟨e_in 781 (by decide +kernel) (by decide +kernel), by decide, ⟨by decide +kernel, by decide +kernel⟩, by decide +kernel, e_in 93 (by decide +kernel) (by decide +kernel)⟩
set_option maxRecDepth 20000 in
theorem mlL_80 : Cond.methodLink RL 80 yX8_wise ∈ e_tbl := e_in 1529 (by decide +kernel) (by decide +kernel)
set_option maxRecDepth 20000 in
theorem im_X8_wise : Cond.instanceMethod yX8_wise ∈ e_tbl := e_in 1530 (by decide +kernel) (by decide +kernel)
set_option maxRecDepth 20000 in
theorem se_X8_wise : Cond.selects yX8_wise.cls yX8_wise yX8_wise ∈ e_tbl := e_in 1531 (by decide +kernel) (by decide +kernel)
set_option maxRecDepth 20000 in
theorem me_X8_wise : e_me yX8_wise cX8_wise 5 (some .long) 4 := ⟨e_in 1532 (by decide +kernel) (by decide +kernel), by decide, ⟨by decide +kernel, by decide +kernel⟩, by decide +kernel, e_in 105 (by decide +kernel) (by decide +kernel)⟩
set_option maxRecDepth 20000 in
theorem mlL_81 : Cond.methodLink RL 81 yX7_choice ∈ e_tbl := e_in 828 (by decide +kernel) (by decide +kernel)
set_option maxRecDepth 20000 in
theorem im_X7_choice : Cond.instanceMethod yX7_choice ∈ e_tbl := e_in 829 (by decide +kernel) (by decide +kernel)
set_option maxRecDepth 20000 in
theorem se_X7_choice : Cond.selects yX7_choice.cls yX7_choice yX7_choice ∈ e_tbl := e_in 830 (by decide +kernel) (by decide +kernel)
set_option maxRecDepth 20000 in
theorem me_X7_choice : e_me yX7_choice cX7_choice 4 (some .int) 3 := ⟨e_in 831 (by decide +kernel) (by decide +kernel), by decide, ⟨by decide +kernel, by decide +kernel⟩, by decide +kernel, e_in 93 (by decide +kernel) (by decide +kernel)⟩
set_option maxRecDepth 20000 in
theorem mlL_84 : Cond.methodLink RL 84 yX8_choice ∈ e_tbl := e_in 1537 (by decide +kernel) (by decide +kernel)
set_option maxRecDepth 20000 in
theorem im_X8_choice : Cond.instanceMethod yX8_choice ∈ e_tbl := e_in 1538 (by decide +kernel) (by decide +kernel)
set_option maxRecDepth 20000 in
theorem se_X8_choice : Cond.selects yX8_choice.cls yX8_choice yX8_choice ∈ e_tbl := e_in 1539 (by decide +kernel) (by decide +kernel)
set_option maxRecDepth 20000 in
theorem me_X8_choice : e_me yX8_choice cX8_choice 4 (some .int) 3 := ⟨e_in 1540 (by decide +kernel) (by decide +kernel), by decide, ⟨by decide +kernel, by decide +kernel⟩, by decide +kernel, e_in 105 (by decide +kernel) (by decide +kernel)⟩
set_option maxRecDepth 20000 in
theorem mlL_85 : Cond.methodLink RL 85 yX7_chosen ∈ e_tbl := e_in 832 (by decide +kernel) (by decide +kernel)
set_option maxRecDepth 20000 in
theorem im_X7_chosen : Cond.instanceMethod yX7_chosen ∈ e_tbl := e_in 833 (by decide +kernel) (by decide +kernel)
set_option maxRecDepth 20000 in
theorem se_X7_chosen : Cond.selects yX7_chosen.cls yX7_chosen yX7_chosen ∈ e_tbl := e_in 834 (by decide +kernel) (by decide +kernel)
set_option maxRecDepth 20000 in
theorem me_X7_chosen : e_me yX7_chosen cX7_chosen 6 (some .long) 5 := ⟨e_in 835 (by decide +kernel) (by decide +kernel), by decide, ⟨by decide +kernel, by decide +kernel⟩, by decide +kernel, e_in 93 (by decide +kernel) (by decide +kernel)⟩
set_option maxRecDepth 20000 in
theorem mlL_89 : Cond.methodLink RL 89 yX8_chosen ∈ e_tbl := e_in 1541 (by decide +kernel) (by decide +kernel)
set_option maxRecDepth 20000 in
theorem im_X8_chosen : Cond.instanceMethod yX8_chosen ∈ e_tbl := e_in 1542 (by decide +kernel) (by decide +kernel)
set_option maxRecDepth 20000 in
theorem se_X8_chosen : Cond.selects yX8_chosen.cls yX8_chosen yX8_chosen ∈ e_tbl := e_in 1543 (by decide +kernel) (by decide +kernel)
set_option maxRecDepth 20000 in
theorem me_X8_chosen : e_me yX8_chosen cX8_chosen 7 (some .long) 5 := ⟨e_in 1544 (by decide +kernel) (by decide +kernel), by decide, ⟨by decide +kernel, by decide +kernel⟩, by decide +kernel, e_in 105 (by decide +kernel) (by decide +kernel)⟩
set_option maxRecDepth 20000 in
theorem mlL_90 : Cond.methodLink RL 90 yX7_breaksEven ∈ e_tbl := e_in 845 (by decide +kernel) (by decide +kernel)
set_option maxRecDepth 20000 in
theorem im_X7_breaksEven : Cond.instanceMethod yX7_breaksEven ∈ e_tbl := e_in 846 (by decide +kernel) (by decide +kernel)
set_option maxRecDepth 20000 in
theorem se_X7_breaksEven : Cond.selects yX7_breaksEven.cls yX7_breaksEven yX7_breaksEven ∈ e_tbl := e_in 847 (by decide +kernel) (by decide +kernel)
set_option maxRecDepth 20000 in
theorem me_X7_breaksEven : e_me yX7_breaksEven cX7_breaksEven 5 (some .int) 3 := ⟨e_in 848 (by decide +kernel) (by decide +kernel), by decide, ⟨by decide +kernel, by decide +kernel⟩, by decide +kernel, e_in 93 (by decide +kernel) (by decide +kernel)⟩
set_option maxRecDepth 20000 in
theorem mlL_93 : Cond.methodLink RL 93 yX8_breaksEven ∈ e_tbl := e_in 1545 (by decide +kernel) (by decide +kernel)
set_option maxRecDepth 20000 in
theorem im_X8_breaksEven : Cond.instanceMethod yX8_breaksEven ∈ e_tbl := e_in 1546 (by decide +kernel) (by decide +kernel)
set_option maxRecDepth 20000 in
theorem se_X8_breaksEven : Cond.selects yX8_breaksEven.cls yX8_breaksEven yX8_breaksEven ∈ e_tbl := e_in 1547 (by decide +kernel) (by decide +kernel)
set_option maxRecDepth 20000 in
theorem me_X8_breaksEven : e_me yX8_breaksEven cX8_breaksEven 6 (some .int) 3 := ⟨e_in 1548 (by decide +kernel) (by decide +kernel), by decide, ⟨by decide +kernel, by decide +kernel⟩, by decide +kernel, e_in 105 (by decide +kernel) (by decide +kernel)⟩
set_option maxRecDepth 20000 in
theorem mlL_94 : Cond.methodLink RL 94 yX7_table ∈ e_tbl := e_in 849 (by decide +kernel) (by decide +kernel)
set_option maxRecDepth 20000 in
theorem im_X7_table : Cond.instanceMethod yX7_table ∈ e_tbl := e_in 850 (by decide +kernel) (by decide +kernel)
set_option maxRecDepth 20000 in
theorem se_X7_table : Cond.selects yX7_table.cls yX7_table yX7_table ∈ e_tbl := e_in 851 (by decide +kernel) (by decide +kernel)
set_option maxRecDepth 20000 in
theorem me_X7_table : e_me yX7_table cX7_table 5 (some .long) 4 := ⟨e_in 852 (by decide +kernel) (by decide +kernel), by decide, ⟨by decide +kernel, by decide +kernel⟩, by decide +kernel, e_in 93 (by decide +kernel) (by decide +kernel)⟩
set_option maxRecDepth 20000 in
theorem mlL_97 : Cond.methodLink RL 97 yX8_table ∈ e_tbl := e_in 1533 (by decide +kernel) (by decide +kernel)
set_option maxRecDepth 20000 in
theorem im_X8_table : Cond.instanceMethod yX8_table ∈ e_tbl := e_in 1534 (by decide +kernel) (by decide +kernel)
set_option maxRecDepth 20000 in
theorem se_X8_table : Cond.selects yX8_table.cls yX8_table yX8_table ∈ e_tbl := e_in 1535 (by decide +kernel) (by decide +kernel)
set_option maxRecDepth 20000 in
theorem me_X8_table : e_me yX8_table cX8_table 5 (some .long) 4 := ⟨e_in 1536 (by decide +kernel) (by decide +kernel), by decide, ⟨by decide +kernel, by decide +kernel⟩, by decide +kernel, e_in 105 (by decide +kernel) (by decide +kernel)⟩
set_option maxRecDepth 20000 in
theorem mlL_98 : Cond.methodLink RL 98 yX7_worth ∈ e_tbl := e_in 861 (by decide +kernel) (by decide +kernel)
set_option maxRecDepth 20000 in
theorem im_X7_worth : Cond.instanceMethod yX7_worth ∈ e_tbl := e_in 862 (by decide +kernel) (by decide +kernel)
set_option maxRecDepth 20000 in
theorem se_X7_worth : Cond.selects yX7_worth.cls yX7_worth yX7_worth ∈ e_tbl := e_in 863 (by decide +kernel) (by decide +kernel)
set_option maxRecDepth 20000 in
theorem me_X7_worth : e_me yX7_worth cX7_worth 3 (some .long) 2 := ⟨e_in 864 (by decide +kernel) (by decide +kernel), by decide, ⟨by decide +kernel, by decide +kernel⟩, by decide +kernel, e_in 93 (by decide +kernel) (by decide +kernel)⟩
set_option maxRecDepth 20000 in
theorem mlL_102 : Cond.methodLink RL 102 yX8_worth ∈ e_tbl := e_in 1549 (by decide +kernel) (by decide +kernel)
set_option maxRecDepth 20000 in
theorem im_X8_worth : Cond.instanceMethod yX8_worth ∈ e_tbl := e_in 1550 (by decide +kernel) (by decide +kernel)
set_option maxRecDepth 20000 in
theorem se_X8_worth : Cond.selects yX8_worth.cls yX8_worth yX8_worth ∈ e_tbl := e_in 1551 (by decide +kernel) (by decide +kernel)
set_option maxRecDepth 20000 in
theorem me_X8_worth : e_me yX8_worth cX8_worth 5 (some .long) 2 := ⟨e_in 1552 (by decide +kernel) (by decide +kernel), by decide, ⟨by decide +kernel, by decide +kernel⟩, by decide +kernel, e_in 105 (by decide +kernel) (by decide +kernel)⟩
set_option maxRecDepth 20000 in
theorem mlL_103 : Cond.methodLink RL 103 yX7_best ∈ e_tbl := e_in 874 (by decide +kernel) (by decide +kernel)
set_option maxRecDepth 20000 in
theorem im_X7_best : Cond.instanceMethod yX7_best ∈ e_tbl := e_in 875 (by decide +kernel) (by decide +kernel)
set_option maxRecDepth 20000 in
theorem se_X7_best : Cond.selects yX7_best.cls yX7_best yX7_best ∈ e_tbl := e_in 876 (by decide +kernel) (by decide +kernel)
set_option maxRecDepth 20000 in
theorem me_X7_best : e_me yX7_best cX7_best 3 (some .long) 2 := ⟨e_in 877 (by decide +kernel) (by decide +kernel), by decide, ⟨by decide +kernel, by decide +kernel⟩, by decide +kernel, e_in 93 (by decide +kernel) (by decide +kernel)⟩
set_option maxRecDepth 20000 in
theorem mlL_106 : Cond.methodLink RL 106 yX8_best ∈ e_tbl := e_in 1557 (by decide +kernel) (by decide +kernel)
set_option maxRecDepth 20000 in
theorem im_X8_best : Cond.instanceMethod yX8_best ∈ e_tbl := e_in 1558 (by decide +kernel) (by decide +kernel)
set_option maxRecDepth 20000 in
theorem se_X8_best : Cond.selects yX8_best.cls yX8_best yX8_best ∈ e_tbl := e_in 1559 (by decide +kernel) (by decide +kernel)
set_option maxRecDepth 20000 in
theorem me_X8_best : e_me yX8_best cX8_best 3 (some .long) 2 := ⟨e_in 1560 (by decide +kernel) (by decide +kernel), by decide, ⟨by decide +kernel, by decide +kernel⟩, by decide +kernel, e_in 105 (by decide +kernel) (by decide +kernel)⟩
set_option maxRecDepth 20000 in
theorem mlL_107 : Cond.methodLink RL 107 yX7_bestAt ∈ e_tbl := e_in 909 (by decide +kernel) (by decide +kernel)
set_option maxRecDepth 20000 in
theorem im_X7_bestAt : Cond.instanceMethod yX7_bestAt ∈ e_tbl := e_in 910 (by decide +kernel) (by decide +kernel)
set_option maxRecDepth 20000 in
theorem se_X7_bestAt : Cond.selects yX7_bestAt.cls yX7_bestAt yX7_bestAt ∈ e_tbl := e_in 911 (by decide +kernel) (by decide +kernel)
set_option maxRecDepth 20000 in
theorem me_X7_bestAt : e_me yX7_bestAt cX7_bestAt 3 (some .int) 2 := ⟨e_in 912 (by decide +kernel) (by decide +kernel), by decide, ⟨by decide +kernel, by decide +kernel⟩, by decide +kernel, e_in 93 (by decide +kernel) (by decide +kernel)⟩
set_option maxRecDepth 20000 in
theorem mlL_110 : Cond.methodLink RL 110 yX8_bestAt ∈ e_tbl := e_in 1569 (by decide +kernel) (by decide +kernel)
set_option maxRecDepth 20000 in
theorem im_X8_bestAt : Cond.instanceMethod yX8_bestAt ∈ e_tbl := e_in 1570 (by decide +kernel) (by decide +kernel)
set_option maxRecDepth 20000 in
theorem se_X8_bestAt : Cond.selects yX8_bestAt.cls yX8_bestAt yX8_bestAt ∈ e_tbl := e_in 1571 (by decide +kernel) (by decide +kernel)
set_option maxRecDepth 20000 in
theorem me_X8_bestAt : e_me yX8_bestAt cX8_bestAt 3 (some .int) 2 := ⟨e_in 1572 (by decide +kernel) (by decide +kernel), by decide, ⟨by decide +kernel, by decide +kernel⟩, by decide +kernel, e_in 105 (by decide +kernel) (by decide +kernel)⟩
set_option maxRecDepth 20000 in
theorem mlL_111 : Cond.methodLink RL 111 yX7_exchanged ∈ e_tbl := e_in 918 (by decide +kernel) (by decide +kernel)
set_option maxRecDepth 20000 in
theorem im_X7_exchanged : Cond.instanceMethod yX7_exchanged ∈ e_tbl := e_in 919 (by decide +kernel) (by decide +kernel)
set_option maxRecDepth 20000 in
theorem se_X7_exchanged : Cond.selects yX7_exchanged.cls yX7_exchanged yX7_exchanged ∈ e_tbl := e_in 920 (by decide +kernel) (by decide +kernel)
set_option maxRecDepth 20000 in
theorem me_X7_exchanged : e_me yX7_exchanged cX7_exchanged 6 (some .int) 3 := ⟨e_in 921 (by decide +kernel) (by decide +kernel), by decide, ⟨by decide +kernel, by decide +kernel⟩, by decide +kernel, e_in 93 (by decide +kernel) (by decide +kernel)⟩
set_option maxRecDepth 20000 in
theorem mlL_114 : Cond.methodLink RL 114 yX8_exchanged ∈ e_tbl := e_in 1573 (by decide +kernel) (by decide +kernel)
set_option maxRecDepth 20000 in
theorem im_X8_exchanged : Cond.instanceMethod yX8_exchanged ∈ e_tbl := e_in 1574 (by decide +kernel) (by decide +kernel)
set_option maxRecDepth 20000 in
theorem se_X8_exchanged : Cond.selects yX8_exchanged.cls yX8_exchanged yX8_exchanged ∈ e_tbl := e_in 1575 (by decide +kernel) (by decide +kernel)
set_option maxRecDepth 20000 in
theorem me_X8_exchanged : e_me yX8_exchanged cX8_exchanged 8 (some .int) 3 := ⟨e_in 1576 (by decide +kernel) (by decide +kernel), by decide, ⟨by decide +kernel, by decide +kernel⟩, by decide +kernel, e_in 105 (by decide +kernel) (by decide +kernel)⟩
set_option maxRecDepth 20000 in
theorem mlL_115 : Cond.methodLink RL 115 yX7_log ∈ e_tbl := e_in 934 (by decide +kernel) (by decide +kernel)
set_option maxRecDepth 20000 in
theorem im_X7_log : Cond.instanceMethod yX7_log ∈ e_tbl := e_in 935 (by decide +kernel) (by decide +kernel)
set_option maxRecDepth 20000 in
theorem se_X7_log : Cond.selects yX7_log.cls yX7_log yX7_log ∈ e_tbl := e_in 936 (by decide +kernel) (by decide +kernel)
set_option maxRecDepth 20000 in
theorem me_X7_log : e_me yX7_log cX7_log 3 (some .int) 2 := ⟨e_in 937 (by decide +kernel) (by decide +kernel), by decide, ⟨by decide +kernel, by decide +kernel⟩, by decide +kernel, e_in 93 (by decide +kernel) (by decide +kernel)⟩
set_option maxRecDepth 20000 in
theorem mlL_118 : Cond.methodLink RL 118 yX8_log ∈ e_tbl := e_in 1581 (by decide +kernel) (by decide +kernel)
set_option maxRecDepth 20000 in
theorem im_X8_log : Cond.instanceMethod yX8_log ∈ e_tbl := e_in 1582 (by decide +kernel) (by decide +kernel)
set_option maxRecDepth 20000 in
theorem se_X8_log : Cond.selects yX8_log.cls yX8_log yX8_log ∈ e_tbl := e_in 1583 (by decide +kernel) (by decide +kernel)
set_option maxRecDepth 20000 in
theorem me_X8_log : e_me yX8_log cX8_log 3 (some .int) 2 := ⟨e_in 1584 (by decide +kernel) (by decide +kernel), by decide, ⟨by decide +kernel, by decide +kernel⟩, by decide +kernel, e_in 105 (by decide +kernel) (by decide +kernel)⟩
set_option maxRecDepth 20000 in
theorem mlL_119 : Cond.methodLink RL 119 yX7_added ∈ e_tbl := e_in 940 (by decide +kernel) (by decide +kernel)
set_option maxRecDepth 20000 in
theorem im_X7_added : Cond.instanceMethod yX7_added ∈ e_tbl := e_in 941 (by decide +kernel) (by decide +kernel)
set_option maxRecDepth 20000 in
theorem se_X7_added : Cond.selects yX7_added.cls yX7_added yX7_added ∈ e_tbl := e_in 942 (by decide +kernel) (by decide +kernel)
set_option maxRecDepth 20000 in
theorem me_X7_added : e_me yX7_added cX7_added 4 (some .long) 3 := ⟨e_in 943 (by decide +kernel) (by decide +kernel), by decide, ⟨by decide +kernel, by decide +kernel⟩, by decide +kernel, e_in 93 (by decide +kernel) (by decide +kernel)⟩
set_option maxRecDepth 20000 in
theorem mlL_123 : Cond.methodLink RL 123 yX8_added ∈ e_tbl := e_in 1585 (by decide +kernel) (by decide +kernel)
set_option maxRecDepth 20000 in
theorem im_X8_added : Cond.instanceMethod yX8_added ∈ e_tbl := e_in 1586 (by decide +kernel) (by decide +kernel)
set_option maxRecDepth 20000 in
theorem se_X8_added : Cond.selects yX8_added.cls yX8_added yX8_added ∈ e_tbl := e_in 1587 (by decide +kernel) (by decide +kernel)
set_option maxRecDepth 20000 in
theorem me_X8_added : e_me yX8_added cX8_added 4 (some .long) 3 := ⟨e_in 1588 (by decide +kernel) (by decide +kernel), by decide, ⟨by decide +kernel, by decide +kernel⟩, by decide +kernel, e_in 105 (by decide +kernel) (by decide +kernel)⟩
set_option maxRecDepth 20000 in
theorem mlL_124 : Cond.methodLink RL 124 yX7_credit ∈ e_tbl := e_in 951 (by decide +kernel) (by decide +kernel)
set_option maxRecDepth 20000 in
theorem im_X7_credit : Cond.instanceMethod yX7_credit ∈ e_tbl := e_in 952 (by decide +kernel) (by decide +kernel)
set_option maxRecDepth 20000 in
theorem se_X7_credit : Cond.selects yX7_credit.cls yX7_credit yX7_credit ∈ e_tbl := e_in 953 (by decide +kernel) (by decide +kernel)
set_option maxRecDepth 20000 in
theorem me_X7_credit : e_me yX7_credit cX7_credit 4 (some .long) 3 := ⟨e_in 954 (by decide +kernel) (by decide +kernel), by decide, ⟨by decide +kernel, by decide +kernel⟩, by decide +kernel, e_in 93 (by decide +kernel) (by decide +kernel)⟩
set_option maxRecDepth 20000 in
theorem mlL_127 : Cond.methodLink RL 127 yX8_credit ∈ e_tbl := e_in 1593 (by decide +kernel) (by decide +kernel)
set_option maxRecDepth 20000 in
theorem im_X8_credit : Cond.instanceMethod yX8_credit ∈ e_tbl := e_in 1594 (by decide +kernel) (by decide +kernel)
set_option maxRecDepth 20000 in
theorem se_X8_credit : Cond.selects yX8_credit.cls yX8_credit yX8_credit ∈ e_tbl := e_in 1595 (by decide +kernel) (by decide +kernel)
set_option maxRecDepth 20000 in
theorem me_X8_credit : e_me yX8_credit cX8_credit 4 (some .long) 3 := ⟨e_in 1596 (by decide +kernel) (by decide +kernel), by decide, ⟨by decide +kernel, by decide +kernel⟩, by decide +kernel, e_in 105 (by decide +kernel) (by decide +kernel)⟩
set_option maxRecDepth 20000 in
theorem mlL_128 : Cond.methodLink RL 128 yX7_all ∈ e_tbl := e_in 959 (by decide +kernel) (by decide +kernel)
set_option maxRecDepth 20000 in
theorem im_X7_all : Cond.instanceMethod yX7_all ∈ e_tbl := e_in 960 (by decide +kernel) (by decide +kernel)
set_option maxRecDepth 20000 in
theorem se_X7_all : Cond.selects yX7_all.cls yX7_all yX7_all ∈ e_tbl := e_in 961 (by decide +kernel) (by decide +kernel)
set_option maxRecDepth 20000 in
theorem me_X7_all : e_me yX7_all cX7_all 3 (some .long) 2 := ⟨e_in 962 (by decide +kernel) (by decide +kernel), by decide, ⟨by decide +kernel, by decide +kernel⟩, by decide +kernel, e_in 93 (by decide +kernel) (by decide +kernel)⟩
set_option maxRecDepth 20000 in
theorem mlL_131 : Cond.methodLink RL 131 yX8_all ∈ e_tbl := e_in 1601 (by decide +kernel) (by decide +kernel)
set_option maxRecDepth 20000 in
theorem im_X8_all : Cond.instanceMethod yX8_all ∈ e_tbl := e_in 1602 (by decide +kernel) (by decide +kernel)
set_option maxRecDepth 20000 in
theorem se_X8_all : Cond.selects yX8_all.cls yX8_all yX8_all ∈ e_tbl := e_in 1603 (by decide +kernel) (by decide +kernel)
set_option maxRecDepth 20000 in
theorem me_X8_all : e_me yX8_all cX8_all 3 (some .long) 2 := ⟨e_in 1604 (by decide +kernel) (by decide +kernel), by decide, ⟨by decide +kernel, by decide +kernel⟩, by decide +kernel, e_in 105 (by decide +kernel) (by decide +kernel)⟩
set_option maxRecDepth 20000 in
theorem mlL_132 : Cond.methodLink RL 132 yX7_innings ∈ e_tbl := e_in 963 (by decide +kernel) (by decide +kernel)
set_option maxRecDepth 20000 in
theorem im_X7_innings : Cond.instanceMethod yX7_innings ∈ e_tbl := e_in 964 (by decide +kernel) (by decide +kernel)
set_option maxRecDepth 20000 in
theorem se_X7_innings : Cond.selects yX7_innings.cls yX7_innings yX7_innings ∈ e_tbl := e_in 965 (by decide +kernel) (by decide +kernel)
set_option maxRecDepth 20000 in
theorem me_X7_innings : e_me yX7_innings cX7_innings 9 (some .int) 4 := ⟨e_in 966 (by decide +kernel) (by decide +kernel), by decide, ⟨by decide +kernel, by decide +kernel⟩, by decide +kernel, e_in 93 (by decide +kernel) (by decide +kernel)⟩
set_option maxRecDepth 20000 in
theorem mlL_136 : Cond.methodLink RL 136 yX8_innings ∈ e_tbl := e_in 1605 (by decide +kernel) (by decide +kernel)
set_option maxRecDepth 20000 in
theorem im_X8_innings : Cond.instanceMethod yX8_innings ∈ e_tbl := e_in 1606 (by decide +kernel) (by decide +kernel)
set_option maxRecDepth 20000 in
theorem se_X8_innings : Cond.selects yX8_innings.cls yX8_innings yX8_innings ∈ e_tbl := e_in 1607 (by decide +kernel) (by decide +kernel)
set_option maxRecDepth 20000 in
theorem me_X8_innings : e_me yX8_innings cX8_innings 9 (some .int) 4 := ⟨e_in 1608 (by decide +kernel) (by decide +kernel), by decide, ⟨by decide +kernel, by decide +kernel⟩, by decide +kernel, e_in 105 (by decide +kernel) (by decide +kernel)⟩
set_option maxRecDepth 20000 in
theorem mlL_137 : Cond.methodLink RL 137 yX7_event ∈ e_tbl := e_in 1013 (by decide +kernel) (by decide +kernel)
set_option maxRecDepth 20000 in
theorem im_X7_event : Cond.instanceMethod yX7_event ∈ e_tbl := e_in 1014 (by decide +kernel) (by decide +kernel)
set_option maxRecDepth 20000 in
theorem se_X7_event : Cond.selects yX7_event.cls yX7_event yX7_event ∈ e_tbl := e_in 1015 (by decide +kernel) (by decide +kernel)
set_option maxRecDepth 20000 in
theorem me_X7_event : e_me yX7_event cX7_event 2 (some .int) 1 := ⟨e_in 1016 (by decide +kernel) (by decide +kernel), by decide, ⟨by decide +kernel, by decide +kernel⟩, by decide +kernel, e_in 93 (by decide +kernel) (by decide +kernel)⟩
set_option maxRecDepth 20000 in
theorem mlL_140 : Cond.methodLink RL 140 yX8_event ∈ e_tbl := e_in 1632 (by decide +kernel) (by decide +kernel)
set_option maxRecDepth 20000 in
theorem im_X8_event : Cond.instanceMethod yX8_event ∈ e_tbl := e_in 1633 (by decide +kernel) (by decide +kernel)
set_option maxRecDepth 20000 in
theorem se_X8_event : Cond.selects yX8_event.cls yX8_event yX8_event ∈ e_tbl := e_in 1634 (by decide +kernel) (by decide +kernel)
set_option maxRecDepth 20000 in
theorem me_X8_event : e_me yX8_event cX8_event 3 (some .int) 1 := ⟨e_in 1635 (by decide +kernel) (by decide +kernel), by decide, ⟨by decide +kernel, by decide +kernel⟩, by decide +kernel, e_in 105 (by decide +kernel) (by decide +kernel)⟩
set_option maxRecDepth 20000 in
theorem mlL_141 : Cond.methodLink RL 141 yX7_play ∈ e_tbl := e_in 1028 (by decide +kernel) (by decide +kernel)
set_option maxRecDepth 20000 in
theorem im_X7_play : Cond.instanceMethod yX7_play ∈ e_tbl := e_in 1029 (by decide +kernel) (by decide +kernel)
set_option maxRecDepth 20000 in
theorem se_X7_play : Cond.selects yX7_play.cls yX7_play yX7_play ∈ e_tbl := e_in 1030 (by decide +kernel) (by decide +kernel)
set_option maxRecDepth 20000 in
theorem me_X7_play : e_me yX7_play cX7_play 6 (some .int) 3 := ⟨e_in 1031 (by decide +kernel) (by decide +kernel), by decide, ⟨by decide +kernel, by decide +kernel⟩, by decide +kernel, e_in 93 (by decide +kernel) (by decide +kernel)⟩
set_option maxRecDepth 20000 in
theorem mlL_145 : Cond.methodLink RL 145 yX8_play ∈ e_tbl := e_in 1640 (by decide +kernel) (by decide +kernel)
set_option maxRecDepth 20000 in
theorem im_X8_play : Cond.instanceMethod yX8_play ∈ e_tbl := e_in 1641 (by decide +kernel) (by decide +kernel)
set_option maxRecDepth 20000 in
theorem se_X8_play : Cond.selects yX8_play.cls yX8_play yX8_play ∈ e_tbl := e_in 1642 (by decide +kernel) (by decide +kernel)
set_option maxRecDepth 20000 in
theorem me_X8_play : e_me yX8_play cX8_play 6 (some .int) 3 := ⟨e_in 1643 (by decide +kernel) (by decide +kernel), by decide, ⟨by decide +kernel, by decide +kernel⟩, by decide +kernel, e_in 105 (by decide +kernel) (by decide +kernel)⟩
set_option maxRecDepth 20000 in
theorem mlL_146 : Cond.methodLink RL 146 yX7_relieve ∈ e_tbl := e_in 1032 (by decide +kernel) (by decide +kernel)
set_option maxRecDepth 20000 in
theorem im_X7_relieve : Cond.instanceMethod yX7_relieve ∈ e_tbl := e_in 1033 (by decide +kernel) (by decide +kernel)
set_option maxRecDepth 20000 in
theorem se_X7_relieve : Cond.selects yX7_relieve.cls yX7_relieve yX7_relieve ∈ e_tbl := e_in 1034 (by decide +kernel) (by decide +kernel)
set_option maxRecDepth 20000 in
theorem me_X7_relieve : e_me yX7_relieve cX7_relieve 2 (some .int) 0 := ⟨e_in 1035 (by decide +kernel) (by decide +kernel), by decide, ⟨by decide +kernel, by decide +kernel⟩, by decide +kernel, e_in 93 (by decide +kernel) (by decide +kernel)⟩
set_option maxRecDepth 20000 in
theorem mlL_149 : Cond.methodLink RL 149 yX8_relieve ∈ e_tbl := e_in 1644 (by decide +kernel) (by decide +kernel)
set_option maxRecDepth 20000 in
theorem im_X8_relieve : Cond.instanceMethod yX8_relieve ∈ e_tbl := e_in 1645 (by decide +kernel) (by decide +kernel)
set_option maxRecDepth 20000 in
theorem se_X8_relieve : Cond.selects yX8_relieve.cls yX8_relieve yX8_relieve ∈ e_tbl := e_in 1646 (by decide +kernel) (by decide +kernel)
set_option maxRecDepth 20000 in
theorem me_X8_relieve : e_me yX8_relieve cX8_relieve 2 (some .int) 0 := ⟨e_in 1647 (by decide +kernel) (by decide +kernel), by decide, ⟨by decide +kernel, by decide +kernel⟩, by decide +kernel, e_in 105 (by decide +kernel) (by decide +kernel)⟩
set_option maxRecDepth 20000 in
theorem mlL_150 : Cond.methodLink RL 150 yX7_begin ∈ e_tbl := e_in 1036 (by decide +kernel) (by decide +kernel)
set_option maxRecDepth 20000 in
theorem im_X7_begin : Cond.instanceMethod yX7_begin ∈ e_tbl := e_in 1037 (by decide +kernel) (by decide +kernel)
set_option maxRecDepth 20000 in
theorem se_X7_begin : Cond.selects yX7_begin.cls yX7_begin yX7_begin ∈ e_tbl := e_in 1038 (by decide +kernel) (by decide +kernel)
set_option maxRecDepth 20000 in
theorem me_X7_begin : e_me yX7_begin cX7_begin 2 (some .int) 0 := ⟨e_in 1039 (by decide +kernel) (by decide +kernel), by decide, ⟨by decide +kernel, by decide +kernel⟩, by decide +kernel, e_in 93 (by decide +kernel) (by decide +kernel)⟩
set_option maxRecDepth 20000 in
theorem mlL_153 : Cond.methodLink RL 153 yX8_begin ∈ e_tbl := e_in 1648 (by decide +kernel) (by decide +kernel)
set_option maxRecDepth 20000 in
theorem im_X8_begin : Cond.instanceMethod yX8_begin ∈ e_tbl := e_in 1649 (by decide +kernel) (by decide +kernel)
set_option maxRecDepth 20000 in
theorem se_X8_begin : Cond.selects yX8_begin.cls yX8_begin yX8_begin ∈ e_tbl := e_in 1650 (by decide +kernel) (by decide +kernel)
set_option maxRecDepth 20000 in
theorem me_X8_begin : e_me yX8_begin cX8_begin 2 (some .int) 0 := ⟨e_in 1651 (by decide +kernel) (by decide +kernel), by decide, ⟨by decide +kernel, by decide +kernel⟩, by decide +kernel, e_in 105 (by decide +kernel) (by decide +kernel)⟩
set_option maxRecDepth 20000 in
theorem mlL_154 : Cond.methodLink RL 154 yX7_swap ∈ e_tbl := e_in 1040 (by decide +kernel) (by decide +kernel)
set_option maxRecDepth 20000 in
theorem im_X7_swap : Cond.instanceMethod yX7_swap ∈ e_tbl := e_in 1041 (by decide +kernel) (by decide +kernel)
set_option maxRecDepth 20000 in
theorem se_X7_swap : Cond.selects yX7_swap.cls yX7_swap yX7_swap ∈ e_tbl := e_in 1042 (by decide +kernel) (by decide +kernel)
set_option maxRecDepth 20000 in
theorem me_X7_swap : e_me yX7_swap cX7_swap 3 (some .int) 2 := ⟨e_in 1043 (by decide +kernel) (by decide +kernel), by decide, ⟨by decide +kernel, by decide +kernel⟩, by decide +kernel, e_in 93 (by decide +kernel) (by decide +kernel)⟩
set_option maxRecDepth 20000 in
theorem mlL_157 : Cond.methodLink RL 157 yX8_swap ∈ e_tbl := e_in 1652 (by decide +kernel) (by decide +kernel)
set_option maxRecDepth 20000 in
theorem im_X8_swap : Cond.instanceMethod yX8_swap ∈ e_tbl := e_in 1653 (by decide +kernel) (by decide +kernel)
set_option maxRecDepth 20000 in
theorem se_X8_swap : Cond.selects yX8_swap.cls yX8_swap yX8_swap ∈ e_tbl := e_in 1654 (by decide +kernel) (by decide +kernel)
set_option maxRecDepth 20000 in
theorem me_X8_swap : e_me yX8_swap cX8_swap 3 (some .int) 2 := ⟨e_in 1655 (by decide +kernel) (by decide +kernel), by decide, ⟨by decide +kernel, by decide +kernel⟩, by decide +kernel, e_in 105 (by decide +kernel) (by decide +kernel)⟩
set_option maxRecDepth 20000 in
theorem mlL_158 : Cond.methodLink RL 158 yX7_lay ∈ e_tbl := e_in 1045 (by decide +kernel) (by decide +kernel)
set_option maxRecDepth 20000 in
theorem im_X7_lay : Cond.instanceMethod yX7_lay ∈ e_tbl := e_in 1046 (by decide +kernel) (by decide +kernel)
set_option maxRecDepth 20000 in
theorem se_X7_lay : Cond.selects yX7_lay.cls yX7_lay yX7_lay ∈ e_tbl := e_in 1047 (by decide +kernel) (by decide +kernel)
set_option maxRecDepth 20000 in
theorem me_X7_lay : e_me yX7_lay cX7_lay 4 (some .int) 1 := ⟨e_in 1048 (by decide +kernel) (by decide +kernel), by decide, ⟨by decide +kernel, by decide +kernel⟩, by decide +kernel, e_in 93 (by decide +kernel) (by decide +kernel)⟩
set_option maxRecDepth 20000 in
theorem mlL_161 : Cond.methodLink RL 161 yX8_lay ∈ e_tbl := e_in 1656 (by decide +kernel) (by decide +kernel)
set_option maxRecDepth 20000 in
theorem im_X8_lay : Cond.instanceMethod yX8_lay ∈ e_tbl := e_in 1657 (by decide +kernel) (by decide +kernel)
set_option maxRecDepth 20000 in
theorem se_X8_lay : Cond.selects yX8_lay.cls yX8_lay yX8_lay ∈ e_tbl := e_in 1658 (by decide +kernel) (by decide +kernel)
set_option maxRecDepth 20000 in
theorem me_X8_lay : e_me yX8_lay cX8_lay 4 (some .int) 1 := ⟨e_in 1659 (by decide +kernel) (by decide +kernel), by decide, ⟨by decide +kernel, by decide +kernel⟩, by decide +kernel, e_in 105 (by decide +kernel) (by decide +kernel)⟩
set_option maxRecDepth 20000 in
theorem mlL_162 : Cond.methodLink RL 162 yX7_better ∈ e_tbl := e_in 1050 (by decide +kernel) (by decide +kernel)
set_option maxRecDepth 20000 in
theorem im_X7_better : Cond.instanceMethod yX7_better ∈ e_tbl := e_in 1051 (by decide +kernel) (by decide +kernel)
set_option maxRecDepth 20000 in
theorem se_X7_better : Cond.selects yX7_better.cls yX7_better yX7_better ∈ e_tbl := e_in 1052 (by decide +kernel) (by decide +kernel)
set_option maxRecDepth 20000 in
theorem me_X7_better : e_me yX7_better cX7_better 3 (some .int) 1 := ⟨e_in 1053 (by decide +kernel) (by decide +kernel), by decide, ⟨by decide +kernel, by decide +kernel⟩, by decide +kernel, e_in 93 (by decide +kernel) (by decide +kernel)⟩
set_option maxRecDepth 20000 in
theorem mlL_165 : Cond.methodLink RL 165 yX8_better ∈ e_tbl := e_in 1660 (by decide +kernel) (by decide +kernel)
set_option maxRecDepth 20000 in
theorem im_X8_better : Cond.instanceMethod yX8_better ∈ e_tbl := e_in 1661 (by decide +kernel) (by decide +kernel)
set_option maxRecDepth 20000 in
theorem se_X8_better : Cond.selects yX8_better.cls yX8_better yX8_better ∈ e_tbl := e_in 1662 (by decide +kernel) (by decide +kernel)
set_option maxRecDepth 20000 in
theorem me_X8_better : e_me yX8_better cX8_better 3 (some .int) 1 := ⟨e_in 1663 (by decide +kernel) (by decide +kernel), by decide, ⟨by decide +kernel, by decide +kernel⟩, by decide +kernel, e_in 105 (by decide +kernel) (by decide +kernel)⟩
set_option maxRecDepth 20000 in
theorem mlL_166 : Cond.methodLink RL 166 yX7_shift ∈ e_tbl := e_in 1060 (by decide +kernel) (by decide +kernel)
set_option maxRecDepth 20000 in
theorem im_X7_shift : Cond.instanceMethod yX7_shift ∈ e_tbl := e_in 1061 (by decide +kernel) (by decide +kernel)
set_option maxRecDepth 20000 in
theorem se_X7_shift : Cond.selects yX7_shift.cls yX7_shift yX7_shift ∈ e_tbl := e_in 1062 (by decide +kernel) (by decide +kernel)
set_option maxRecDepth 20000 in
theorem me_X7_shift : e_me yX7_shift cX7_shift 5 (some .int) 4 := ⟨e_in 1063 (by decide +kernel) (by decide +kernel), by decide, ⟨by decide +kernel, by decide +kernel⟩, by decide +kernel, e_in 93 (by decide +kernel) (by decide +kernel)⟩
set_option maxRecDepth 20000 in
theorem mlL_169 : Cond.methodLink RL 169 yX8_shift ∈ e_tbl := e_in 1668 (by decide +kernel) (by decide +kernel)
set_option maxRecDepth 20000 in
theorem im_X8_shift : Cond.instanceMethod yX8_shift ∈ e_tbl := e_in 1669 (by decide +kernel) (by decide +kernel)
set_option maxRecDepth 20000 in
theorem se_X8_shift : Cond.selects yX8_shift.cls yX8_shift yX8_shift ∈ e_tbl := e_in 1670 (by decide +kernel) (by decide +kernel)
set_option maxRecDepth 20000 in
theorem me_X8_shift : e_me yX8_shift cX8_shift 6 (some .int) 4 := ⟨e_in 1671 (by decide +kernel) (by decide +kernel), by decide, ⟨by decide +kernel, by decide +kernel⟩, by decide +kernel, e_in 105 (by decide +kernel) (by decide +kernel)⟩
set_option maxRecDepth 20000 in
theorem mlL_170 : Cond.methodLink RL 170 yX7_become ∈ e_tbl := e_in 1072 (by decide +kernel) (by decide +kernel)
set_option maxRecDepth 20000 in
theorem im_X7_become : Cond.instanceMethod yX7_become ∈ e_tbl := e_in 1073 (by decide +kernel) (by decide +kernel)
set_option maxRecDepth 20000 in
theorem se_X7_become : Cond.selects yX7_become.cls yX7_become yX7_become ∈ e_tbl := e_in 1074 (by decide +kernel) (by decide +kernel)
set_option maxRecDepth 20000 in
theorem me_X7_become : e_me yX7_become cX7_become 4 (some .int) 2 := ⟨e_in 1075 (by decide +kernel) (by decide +kernel), by decide, ⟨by decide +kernel, by decide +kernel⟩, by decide +kernel, e_in 93 (by decide +kernel) (by decide +kernel)⟩
set_option maxRecDepth 20000 in
theorem mlL_173 : Cond.methodLink RL 173 yX8_become ∈ e_tbl := e_in 1672 (by decide +kernel) (by decide +kernel)
set_option maxRecDepth 20000 in
theorem im_X8_become : Cond.instanceMethod yX8_become ∈ e_tbl := e_in 1673 (by decide +kernel) (by decide +kernel)
set_option maxRecDepth 20000 in
theorem se_X8_become : Cond.selects yX8_become.cls yX8_become yX8_become ∈ e_tbl := e_in 1674 (by decide +kernel) (by decide +kernel)
set_option maxRecDepth 20000 in
theorem me_X8_become : e_me yX8_become cX8_become 4 (some .int) 2 := ⟨e_in 1675 (by decide +kernel) (by decide +kernel), by decide, ⟨by decide +kernel, by decide +kernel⟩, by decide +kernel, e_in 105 (by decide +kernel) (by decide +kernel)⟩
set_option maxRecDepth 20000 in
theorem mlL_174 : Cond.methodLink RL 174 yX7_undo ∈ e_tbl := e_in 1085 (by decide +kernel) (by decide +kernel)
set_option maxRecDepth 20000 in
theorem im_X7_undo : Cond.instanceMethod yX7_undo ∈ e_tbl := e_in 1086 (by decide +kernel) (by decide +kernel)
set_option maxRecDepth 20000 in
theorem se_X7_undo : Cond.selects yX7_undo.cls yX7_undo yX7_undo ∈ e_tbl := e_in 1087 (by decide +kernel) (by decide +kernel)
set_option maxRecDepth 20000 in
theorem me_X7_undo : e_me yX7_undo cX7_undo 1 (some .int) 0 := ⟨e_in 1088 (by decide +kernel) (by decide +kernel), by decide, ⟨by decide +kernel, by decide +kernel⟩, by decide +kernel, e_in 93 (by decide +kernel) (by decide +kernel)⟩
set_option maxRecDepth 20000 in
theorem mlL_177 : Cond.methodLink RL 177 yX8_undo ∈ e_tbl := e_in 1676 (by decide +kernel) (by decide +kernel)
set_option maxRecDepth 20000 in
theorem im_X8_undo : Cond.instanceMethod yX8_undo ∈ e_tbl := e_in 1677 (by decide +kernel) (by decide +kernel)
set_option maxRecDepth 20000 in
theorem se_X8_undo : Cond.selects yX8_undo.cls yX8_undo yX8_undo ∈ e_tbl := e_in 1678 (by decide +kernel) (by decide +kernel)
set_option maxRecDepth 20000 in
theorem me_X8_undo : e_me yX8_undo cX8_undo 1 (some .int) 0 := ⟨e_in 1679 (by decide +kernel) (by decide +kernel), by decide, ⟨by decide +kernel, by decide +kernel⟩, by decide +kernel, e_in 105 (by decide +kernel) (by decide +kernel)⟩
set_option maxRecDepth 20000 in
theorem mlL_187 : Cond.methodLink RL 187 yX7_size ∈ e_tbl := e_in 1093 (by decide +kernel) (by decide +kernel)
set_option maxRecDepth 20000 in
theorem im_X7_size : Cond.instanceMethod yX7_size ∈ e_tbl := e_in 1094 (by decide +kernel) (by decide +kernel)
set_option maxRecDepth 20000 in
theorem se_X7_size : Cond.selects yX7_size.cls yX7_size yX7_size ∈ e_tbl := e_in 1095 (by decide +kernel) (by decide +kernel)
set_option maxRecDepth 20000 in
theorem me_X7_size : e_me yX7_size cX7_size 1 (some .int) 0 := ⟨e_in 1096 (by decide +kernel) (by decide +kernel), by decide, ⟨by decide +kernel, by decide +kernel⟩, by decide +kernel, e_in 93 (by decide +kernel) (by decide +kernel)⟩
set_option maxRecDepth 20000 in
theorem mlL_190 : Cond.methodLink RL 190 yX8_size ∈ e_tbl := e_in 1684 (by decide +kernel) (by decide +kernel)
set_option maxRecDepth 20000 in
theorem im_X8_size : Cond.instanceMethod yX8_size ∈ e_tbl := e_in 1685 (by decide +kernel) (by decide +kernel)
set_option maxRecDepth 20000 in
theorem se_X8_size : Cond.selects yX8_size.cls yX8_size yX8_size ∈ e_tbl := e_in 1686 (by decide +kernel) (by decide +kernel)
set_option maxRecDepth 20000 in
theorem me_X8_size : e_me yX8_size cX8_size 1 (some .int) 0 := ⟨e_in 1687 (by decide +kernel) (by decide +kernel), by decide, ⟨by decide +kernel, by decide +kernel⟩, by decide +kernel, e_in 105 (by decide +kernel) (by decide +kernel)⟩
set_option maxRecDepth 20000 in
theorem mlL_191 : Cond.methodLink RL 191 yX7_trouble ∈ e_tbl := e_in 1097 (by decide +kernel) (by decide +kernel)
set_option maxRecDepth 20000 in
theorem im_X7_trouble : Cond.instanceMethod yX7_trouble ∈ e_tbl := e_in 1098 (by decide +kernel) (by decide +kernel)
set_option maxRecDepth 20000 in
theorem se_X7_trouble : Cond.selects yX7_trouble.cls yX7_trouble yX7_trouble ∈ e_tbl := e_in 1099 (by decide +kernel) (by decide +kernel)
set_option maxRecDepth 20000 in
theorem me_X7_trouble : e_me yX7_trouble cX7_trouble 1 (some .int) 0 := ⟨e_in 1100 (by decide +kernel) (by decide +kernel), by decide, ⟨by decide +kernel, by decide +kernel⟩, by decide +kernel, e_in 93 (by decide +kernel) (by decide +kernel)⟩
set_option maxRecDepth 20000 in
theorem mlL_194 : Cond.methodLink RL 194 yX8_trouble ∈ e_tbl := e_in 1688 (by decide +kernel) (by decide +kernel)
set_option maxRecDepth 20000 in
theorem im_X8_trouble : Cond.instanceMethod yX8_trouble ∈ e_tbl := e_in 1689 (by decide +kernel) (by decide +kernel)
set_option maxRecDepth 20000 in
theorem se_X8_trouble : Cond.selects yX8_trouble.cls yX8_trouble yX8_trouble ∈ e_tbl := e_in 1690 (by decide +kernel) (by decide +kernel)
set_option maxRecDepth 20000 in
theorem me_X8_trouble : e_me yX8_trouble cX8_trouble 1 (some .int) 0 := ⟨e_in 1691 (by decide +kernel) (by decide +kernel), by decide, ⟨by decide +kernel, by decide +kernel⟩, by decide +kernel, e_in 105 (by decide +kernel) (by decide +kernel)⟩
/-! THE LAW'S CASES: the script is the cell 4000, which is only read -/
def e_SC (X : e_X) (N : Nat) (xs : Nat → Int32) : Prop := match X with
  | (_, _, _, _, s, _, _, _, _, _, _, ad, base, _, _, _, _, _) => va_X (ad 4000) N xs s s.heap ∧ ad 4000 < s.heap.size ∧ ¬ base ≤ ad 4000
section LZ
variable {X : e_X} {cc : ByteArray} {own : String} {nl d nW : Nat} {rt : Option FieldType} {Q : State → Prop} {pc : Nat} {lv : List (Nat × Value)} {st : List Value} {I : e_I} {L : e_L} {N : Nat} {xs : Nat → Int32}
theorem z_sld (hC : e_C X cc own nl rt d nW) (hX : e_SC X N xs) {j : Int32} (hj : vp_in j N) (hd : decode cc pc = .ok (.iaload, 1)) (k : Z X Q (pc + 1) lv (.int (xs j.toNatClampNeg) :: st) I L) : Z X Q pc lv (.int j :: .ref 4000 :: st) I L := by
  obtain ⟨p, l, e, R, s, m, args, below, meth, c, nL, ad, base, D, cA, k1, k2, n⟩ := X
  obtain ⟨hx, hb, hml, hown, hts, hK, hbase, hR, hk, hinj, had, hlk, hRO, rfl, rfl, hrt⟩ := hC
  intro H locs ls hP hS hl
  exact va_sld hx hb hX.1 hX.2.1 hX.2.2 hS hj hd (k H locs ls hP hS hl)
theorem z_slen (hC : e_C X cc own nl rt d nW) (hX : e_SC X N xs) (hd : decode cc pc = .ok (.arraylength, 1)) (k : Z X Q (pc + 1) lv (.int (Int32.ofNat N) :: st) I L) : Z X Q pc lv (.ref 4000 :: st) I L := by
  obtain ⟨p, l, e, R, s, m, args, below, meth, c, nL, ad, base, D, cA, k1, k2, n⟩ := X
  obtain ⟨hx, hb, hml, hown, hts, hK, hbase, hR, hk, hinj, had, hlk, hRO, rfl, rfl, hrt⟩ := hC
  intro H locs ls hP hS hl
  exact va_slen hx hb hX.1 hX.2.1 hX.2.2 hS hd (k H locs ls hP hS hl)
theorem lg_cmp_self (x : Int64) : lg_cmp x x = 0 := by
  unfold lg_cmp
  rw [if_neg (fun h => absurd (Int64.lt_iff_toInt_lt.mp h) (Int.lt_irrefl _)), if_pos rfl]
theorem zc_i (hC : e_C X cc own nl rt d nW) {y : MethodName} {b : ByteArray} {maxL : Nat} {ret : Option FieldType} {np d' idx a ci : Nat} {ss : List Value} (As : List Value) (st : List Value) (hm : e_me y b maxL ret np) (hl : Cond.methodLink own idx y ∈ e_tbl) (hi : Cond.instanceMethod y ∈ e_tbl) (hs : Cond.selects y.cls y y ∈ e_tbl) (hcl : vwCl[ci]?.map (fun q => q.1) = some y.cls) (hci : ci < 9) (ha : e_at nW a ci) {v : Int32} (hM : Mt y b maxL ret d' nW (.ref a :: As) I L (ph_i I L v)) (hdd : d' < d) (hn : As.length = np) (hroom : (st.map fun v => v.category).sum ≤ 8) (hd : decode cc pc = .ok (.invokevirtual idx, 3)) (hss : ss = As.reverse ++ .ref a :: st) (k : Z X Q (pc + 3) lv (.int v :: st) I L) : Z X Q pc lv ss I L := z_callV hC hm hl hi hs hcl hci ha hM hdd hn hroom hd hss k
theorem zc_iI (hC : e_C X cc own nl rt d nW) {y : MethodName} {b : ByteArray} {maxL : Nat} {ret : Option FieldType} {np d' idx a ci : Nat} {ss : List Value} (As : List Value) (st : List Value) (hm : e_me y b maxL ret np) (hl : Cond.methodLink own idx y ∈ e_tbl) (hi : Cond.instanceMethod y ∈ e_tbl) (hs : Cond.selects y.cls y y ∈ e_tbl) (hcl : vwCl[ci]?.map (fun q => q.1) = some y.cls) (hci : ci < 9) (ha : e_at nW a ci) {v : Int32} {J : e_I} (hM : Mt y b maxL ret d' nW (.ref a :: As) I L (ph_iI L (v, J))) (hdd : d' < d) (hn : As.length = np) (hroom : (st.map fun v => v.category).sum ≤ 8) (hd : decode cc pc = .ok (.invokevirtual idx, 3)) (hss : ss = As.reverse ++ .ref a :: st) (k : Z X Q (pc + 3) lv (.int v :: st) J L) : Z X Q pc lv ss I L := z_callV hC hm hl hi hs hcl hci ha hM hdd hn hroom hd hss k
theorem zc_iL (hC : e_C X cc own nl rt d nW) {y : MethodName} {b : ByteArray} {maxL : Nat} {ret : Option FieldType} {np d' idx a ci : Nat} {ss : List Value} (As : List Value) (st : List Value) (hm : e_me y b maxL ret np) (hl : Cond.methodLink own idx y ∈ e_tbl) (hi : Cond.instanceMethod y ∈ e_tbl) (hs : Cond.selects y.cls y y ∈ e_tbl) (hcl : vwCl[ci]?.map (fun q => q.1) = some y.cls) (hci : ci < 9) (ha : e_at nW a ci) {v : Int32} {M : e_L} (hM : Mt y b maxL ret d' nW (.ref a :: As) I L (ph_iL I (v, M))) (hdd : d' < d) (hn : As.length = np) (hroom : (st.map fun v => v.category).sum ≤ 8) (hd : decode cc pc = .ok (.invokevirtual idx, 3)) (hss : ss = As.reverse ++ .ref a :: st) (k : Z X Q (pc + 3) lv (.int v :: st) I M) : Z X Q pc lv ss I L := z_callV hC hm hl hi hs hcl hci ha hM hdd hn hroom hd hss k
theorem zc_iIL (hC : e_C X cc own nl rt d nW) {y : MethodName} {b : ByteArray} {maxL : Nat} {ret : Option FieldType} {np d' idx a ci : Nat} {ss : List Value} (As : List Value) (st : List Value) (hm : e_me y b maxL ret np) (hl : Cond.methodLink own idx y ∈ e_tbl) (hi : Cond.instanceMethod y ∈ e_tbl) (hs : Cond.selects y.cls y y ∈ e_tbl) (hcl : vwCl[ci]?.map (fun q => q.1) = some y.cls) (hci : ci < 9) (ha : e_at nW a ci) {v : Int32} {J : e_I} {M : e_L} (hM : Mt y b maxL ret d' nW (.ref a :: As) I L (ph_iIL (v, J, M))) (hdd : d' < d) (hn : As.length = np) (hroom : (st.map fun v => v.category).sum ≤ 8) (hd : decode cc pc = .ok (.invokevirtual idx, 3)) (hss : ss = As.reverse ++ .ref a :: st) (k : Z X Q (pc + 3) lv (.int v :: st) J M) : Z X Q pc lv ss I L := z_callV hC hm hl hi hs hcl hci ha hM hdd hn hroom hd hss k
theorem zc_l (hC : e_C X cc own nl rt d nW) {y : MethodName} {b : ByteArray} {maxL : Nat} {ret : Option FieldType} {np d' idx a ci : Nat} {ss : List Value} (As : List Value) (st : List Value) (hm : e_me y b maxL ret np) (hl : Cond.methodLink own idx y ∈ e_tbl) (hi : Cond.instanceMethod y ∈ e_tbl) (hs : Cond.selects y.cls y y ∈ e_tbl) (hcl : vwCl[ci]?.map (fun q => q.1) = some y.cls) (hci : ci < 9) (ha : e_at nW a ci) {v : Int64} (hM : Mt y b maxL ret d' nW (.ref a :: As) I L (ph_l I L v)) (hdd : d' < d) (hn : As.length = np) (hroom : (st.map fun v => v.category).sum ≤ 8) (hd : decode cc pc = .ok (.invokevirtual idx, 3)) (hss : ss = As.reverse ++ .ref a :: st) (k : Z X Q (pc + 3) lv (.long v :: st) I L) : Z X Q pc lv ss I L := z_callV hC hm hl hi hs hcl hci ha hM hdd hn hroom hd hss k
theorem zc_lI (hC : e_C X cc own nl rt d nW) {y : MethodName} {b : ByteArray} {maxL : Nat} {ret : Option FieldType} {np d' idx a ci : Nat} {ss : List Value} (As : List Value) (st : List Value) (hm : e_me y b maxL ret np) (hl : Cond.methodLink own idx y ∈ e_tbl) (hi : Cond.instanceMethod y ∈ e_tbl) (hs : Cond.selects y.cls y y ∈ e_tbl) (hcl : vwCl[ci]?.map (fun q => q.1) = some y.cls) (hci : ci < 9) (ha : e_at nW a ci) {v : Int64} {J : e_I} (hM : Mt y b maxL ret d' nW (.ref a :: As) I L (ph_lI L (v, J))) (hdd : d' < d) (hn : As.length = np) (hroom : (st.map fun v => v.category).sum ≤ 8) (hd : decode cc pc = .ok (.invokevirtual idx, 3)) (hss : ss = As.reverse ++ .ref a :: st) (k : Z X Q (pc + 3) lv (.long v :: st) J L) : Z X Q pc lv ss I L := z_callV hC hm hl hi hs hcl hci ha hM hdd hn hroom hd hss k
theorem zc_lL (hC : e_C X cc own nl rt d nW) {y : MethodName} {b : ByteArray} {maxL : Nat} {ret : Option FieldType} {np d' idx a ci : Nat} {ss : List Value} (As : List Value) (st : List Value) (hm : e_me y b maxL ret np) (hl : Cond.methodLink own idx y ∈ e_tbl) (hi : Cond.instanceMethod y ∈ e_tbl) (hs : Cond.selects y.cls y y ∈ e_tbl) (hcl : vwCl[ci]?.map (fun q => q.1) = some y.cls) (hci : ci < 9) (ha : e_at nW a ci) {v : Int64} {M : e_L} (hM : Mt y b maxL ret d' nW (.ref a :: As) I L (ph_lL I (v, M))) (hdd : d' < d) (hn : As.length = np) (hroom : (st.map fun v => v.category).sum ≤ 8) (hd : decode cc pc = .ok (.invokevirtual idx, 3)) (hss : ss = As.reverse ++ .ref a :: st) (k : Z X Q (pc + 3) lv (.long v :: st) I M) : Z X Q pc lv ss I L := z_callV hC hm hl hi hs hcl hci ha hM hdd hn hroom hd hss k
theorem zc_lIL (hC : e_C X cc own nl rt d nW) {y : MethodName} {b : ByteArray} {maxL : Nat} {ret : Option FieldType} {np d' idx a ci : Nat} {ss : List Value} (As : List Value) (st : List Value) (hm : e_me y b maxL ret np) (hl : Cond.methodLink own idx y ∈ e_tbl) (hi : Cond.instanceMethod y ∈ e_tbl) (hs : Cond.selects y.cls y y ∈ e_tbl) (hcl : vwCl[ci]?.map (fun q => q.1) = some y.cls) (hci : ci < 9) (ha : e_at nW a ci) {v : Int64} {J : e_I} {M : e_L} (hM : Mt y b maxL ret d' nW (.ref a :: As) I L (ph_lIL (v, J, M))) (hdd : d' < d) (hn : As.length = np) (hroom : (st.map fun v => v.category).sum ≤ 8) (hd : decode cc pc = .ok (.invokevirtual idx, 3)) (hss : ss = As.reverse ++ .ref a :: st) (k : Z X Q (pc + 3) lv (.long v :: st) J M) : Z X Q pc lv ss I L := z_callV hC hm hl hi hs hcl hci ha hM hdd hn hroom hd hss k
def ST_feed (Rel Rel2 : e_I → e_L → Prop) : Prop := ∀ (a1 : Int32) (a2 : Int32) (a3 : Int32) (a4 : Int32) (a5 : Int32) (I : e_I) (L : e_L), Rel I L → ∃ (r : Int32) (I1 : e_I) (I2 : e_I), f_X7_feed a1 a2 a3 a4 a5 I = some (r, I1) ∧ f_X8_feed a1 a2 a3 a4 a5 I1 = some (r, I2) ∧ Rel2 I2 L
set_option maxRecDepth 100000 in
set_option maxHeartbeats 4000000 in
theorem LC_feed {X : e_X} {Q : State → Prop} {N : Nat} {xs : Nat → Int32} {Rel Rel2 : e_I → e_L → Prop} (hC : e_C X cL_law RL 7 (some .boolean) 40 gN) (hX : e_SC X N xs) {x : Int32} (h1 : vp_in (x + 1) N) {a1 : Int32} (e1 : xs (x + 1).toNatClampNeg = a1) (h2 : vp_in (x + 2) N) {a2 : Int32} (e2 : xs (x + 2).toNatClampNeg = a2) (h3 : vp_in (x + 3) N) {a3 : Int32} (e3 : xs (x + 3).toNatClampNeg = a3) (h4 : vp_in (x + 4) N) {a4 : Int32} (e4 : xs (x + 4).toNatClampNeg = a4) (h5 : vp_in (x + 5) N) {a5 : Int32} (e5 : xs (x + 5).toNatClampNeg = a5) (I : e_I) (L : e_L) (hrel0 : Rel I L) (hS : ST_feed Rel Rel2) (hK : ∀ (I : e_I) (L : e_L), Rel2 I L → Z X Q 1817 [(0, .ref 4000), (1, .ref 0), (2, .ref 83), (3, .ref 97), (4, .int x)] [] I L) : Z X Q 216 [(0, .ref 4000), (1, .ref 0), (2, .ref 83), (3, .ref 97), (4, .int x)] [] I L := by
  obtain ⟨r, I1, I2, q7, q8, hrel⟩ := hS a1 a2 a3 a4 a5 I L hrel0
  refine z_aload_n hC dL_law_216 rfl 1 rfl ?_
  refine z_aload_n hC dL_law_217 rfl 0 rfl ?_
  refine z_iload hC dL_law_218 4 rfl ?_
  refine z_iconst (v := 1) hC (by decide) dL_law_220 ?_
  refine z_iadd hC dL_law_221 ?_
  refine z_sld hC hX h1 dL_law_222 ?_
  rw [e1]
  refine z_aload_n hC dL_law_223 rfl 0 rfl ?_
  refine z_iload hC dL_law_224 4 rfl ?_
  refine z_iconst (v := 2) hC (by decide) dL_law_226 ?_
  refine z_iadd hC dL_law_227 ?_
  refine z_sld hC hX h2 dL_law_228 ?_
  rw [e2]
  refine z_aload_n hC dL_law_229 rfl 0 rfl ?_
  refine z_iload hC dL_law_230 4 rfl ?_
  refine z_iconst (v := 3) hC (by decide) dL_law_232 ?_
  refine z_iadd hC dL_law_233 ?_
  refine z_sld hC hX h3 dL_law_234 ?_
  rw [e3]
  refine z_aload_n hC dL_law_235 rfl 0 rfl ?_
  refine z_iload hC dL_law_236 4 rfl ?_
  refine z_iconst (v := 4) hC (by decide) dL_law_238 ?_
  refine z_iadd hC dL_law_239 ?_
  refine z_sld hC hX h4 dL_law_240 ?_
  rw [e4]
  refine z_aload_n hC dL_law_241 rfl 0 rfl ?_
  refine z_iload hC dL_law_242 4 rfl ?_
  refine z_iconst (v := 5) hC (by decide) dL_law_244 ?_
  refine z_iadd hC dL_law_245 ?_
  refine z_sld hC hX h5 dL_law_246 ?_
  rw [e5]
  refine zc_iI hC [.int a1, .int a2, .int a3, .int a4, .int a5] [] me_X7_feed mlL_19 im_X7_feed se_X7_feed rfl (by decide) at_0 (ci := 7) (T_X7_feed a1 a2 a3 a4 a5 I L _ q7) (by decide) rfl (Nat.le_of_ble_eq_true rfl) dL_law_247 rfl ?_
  refine z_aload_n hC dL_law_250 rfl 2 rfl ?_
  refine z_aload_n hC dL_law_251 rfl 0 rfl ?_
  refine z_iload hC dL_law_252 4 rfl ?_
  refine z_iconst (v := 1) hC (by decide) dL_law_254 ?_
  refine z_iadd hC dL_law_255 ?_
  refine z_sld hC hX h1 dL_law_256 ?_
  rw [e1]
  refine z_aload_n hC dL_law_257 rfl 0 rfl ?_
  refine z_iload hC dL_law_258 4 rfl ?_
  refine z_iconst (v := 2) hC (by decide) dL_law_260 ?_
  refine z_iadd hC dL_law_261 ?_
  refine z_sld hC hX h2 dL_law_262 ?_
  rw [e2]
  refine z_aload_n hC dL_law_263 rfl 0 rfl ?_
  refine z_iload hC dL_law_264 4 rfl ?_
  refine z_iconst (v := 3) hC (by decide) dL_law_266 ?_
  refine z_iadd hC dL_law_267 ?_
  refine z_sld hC hX h3 dL_law_268 ?_
  rw [e3]
  refine z_aload_n hC dL_law_269 rfl 0 rfl ?_
  refine z_iload hC dL_law_270 4 rfl ?_
  refine z_iconst (v := 4) hC (by decide) dL_law_272 ?_
  refine z_iadd hC dL_law_273 ?_
  refine z_sld hC hX h4 dL_law_274 ?_
  rw [e4]
  refine z_aload_n hC dL_law_275 rfl 0 rfl ?_
  refine z_iload hC dL_law_276 4 rfl ?_
  refine z_iconst (v := 5) hC (by decide) dL_law_278 ?_
  refine z_iadd hC dL_law_279 ?_
  refine z_sld hC hX h5 dL_law_280 ?_
  rw [e5]
  refine zc_iI hC [.int a1, .int a2, .int a3, .int a4, .int a5] [.int r] me_X8_feed mlL_23 im_X8_feed se_X8_feed rfl (by decide) at_83 (ci := 8) (T_X8_feed a1 a2 a3 a4 a5 I1 L _ q8) (by decide) rfl (Nat.le_of_ble_eq_true rfl) dL_law_281 rfl ?_
  exact z_icmp_eq (tgt := 1817) hC dL_law_284 (by decide) (fun _ => hK _ _ hrel) (fun h => absurd rfl h)
def ST_text (Rel Rel2 : e_I → e_L → Prop) : Prop := ∀ (a1 : Int32) (I : e_I) (L : e_L), Rel I L → ∃ (r : Int32) (I1 : e_I) (I2 : e_I), f_X7_text a1 I = some (r, I1) ∧ f_X8_text a1 I1 = some (r, I2) ∧ Rel2 I2 L
set_option maxRecDepth 100000 in
set_option maxHeartbeats 4000000 in
theorem LC_text {X : e_X} {Q : State → Prop} {N : Nat} {xs : Nat → Int32} {Rel Rel2 : e_I → e_L → Prop} (hC : e_C X cL_law RL 7 (some .boolean) 40 gN) (hX : e_SC X N xs) {x : Int32} (h1 : vp_in (x + 1) N) {a1 : Int32} (e1 : xs (x + 1).toNatClampNeg = a1) (I : e_I) (L : e_L) (hrel0 : Rel I L) (hS : ST_text Rel Rel2) (hK : ∀ (I : e_I) (L : e_L), Rel2 I L → Z X Q 1817 [(0, .ref 4000), (1, .ref 0), (2, .ref 83), (3, .ref 97), (4, .int x)] [] I L) : Z X Q 289 [(0, .ref 4000), (1, .ref 0), (2, .ref 83), (3, .ref 97), (4, .int x)] [] I L := by
  obtain ⟨r, I1, I2, q7, q8, hrel⟩ := hS a1 I L hrel0
  refine z_aload_n hC dL_law_289 rfl 1 rfl ?_
  refine z_aload_n hC dL_law_290 rfl 0 rfl ?_
  refine z_iload hC dL_law_291 4 rfl ?_
  refine z_iconst (v := 1) hC (by decide) dL_law_293 ?_
  refine z_iadd hC dL_law_294 ?_
  refine z_sld hC hX h1 dL_law_295 ?_
  rw [e1]
  refine zc_iI hC [.int a1] [] me_X7_text mlL_24 im_X7_text se_X7_text rfl (by decide) at_0 (ci := 7) (T_X7_text a1 I L _ q7) (by decide) rfl (Nat.le_of_ble_eq_true rfl) dL_law_296 rfl ?_
  refine z_aload_n hC dL_law_299 rfl 2 rfl ?_
  refine z_aload_n hC dL_law_300 rfl 0 rfl ?_
  refine z_iload hC dL_law_301 4 rfl ?_
  refine z_iconst (v := 1) hC (by decide) dL_law_303 ?_
  refine z_iadd hC dL_law_304 ?_
  refine z_sld hC hX h1 dL_law_305 ?_
  rw [e1]
  refine zc_iI hC [.int a1] [.int r] me_X8_text mlL_27 im_X8_text se_X8_text rfl (by decide) at_83 (ci := 8) (T_X8_text a1 I1 L _ q8) (by decide) rfl (Nat.le_of_ble_eq_true rfl) dL_law_306 rfl ?_
  exact z_icmp_eq (tgt := 1817) hC dL_law_309 (by decide) (fun _ => hK _ _ hrel) (fun h => absurd rfl h)
def ST_fault (Rel Rel2 : e_I → e_L → Prop) : Prop := ∀ (I : e_I) (L : e_L), Rel I L → ∃ (r : Int32) (I2 : e_I), f_X7_fault I = some r ∧ f_X8_fault I = some (r, I2) ∧ Rel2 I2 L
set_option maxRecDepth 100000 in
set_option maxHeartbeats 4000000 in
theorem LC_fault {X : e_X} {Q : State → Prop} {N : Nat} {xs : Nat → Int32} {Rel Rel2 : e_I → e_L → Prop} (hC : e_C X cL_law RL 7 (some .boolean) 40 gN) (hX : e_SC X N xs) {x : Int32} (I : e_I) (L : e_L) (hrel0 : Rel I L) (hS : ST_fault Rel Rel2) (hK : ∀ (I : e_I) (L : e_L), Rel2 I L → Z X Q 1817 [(0, .ref 4000), (1, .ref 0), (2, .ref 83), (3, .ref 97), (4, .int x)] [] I L) : Z X Q 314 [(0, .ref 4000), (1, .ref 0), (2, .ref 83), (3, .ref 97), (4, .int x)] [] I L := by
  obtain ⟨r, I2, q7, q8, hrel⟩ := hS  I L hrel0
  refine z_aload_n hC dL_law_314 rfl 1 rfl ?_
  refine zc_i hC [] [] me_X7_fault mlL_28 im_X7_fault se_X7_fault rfl (by decide) at_0 (ci := 7) (T_X7_fault I L _ q7) (by decide) rfl (Nat.le_of_ble_eq_true rfl) dL_law_315 rfl ?_
  refine z_aload_n hC dL_law_318 rfl 2 rfl ?_
  refine zc_iI hC [] [.int r] me_X8_fault mlL_32 im_X8_fault se_X8_fault rfl (by decide) at_83 (ci := 8) (T_X8_fault I L _ q8) (by decide) rfl (Nat.le_of_ble_eq_true rfl) dL_law_319 rfl ?_
  exact z_icmp_eq (tgt := 1817) hC dL_law_322 (by decide) (fun _ => hK _ _ hrel) (fun h => absurd rfl h)
def ST_where (Rel Rel2 : e_I → e_L → Prop) : Prop := ∀ (I : e_I) (L : e_L), Rel I L → ∃ (r : Int32) (I2 : e_I), f_X7_where I = some r ∧ f_X8_where I = some (r, I2) ∧ Rel2 I2 L
set_option maxRecDepth 100000 in
set_option maxHeartbeats 4000000 in
theorem LC_where {X : e_X} {Q : State → Prop} {N : Nat} {xs : Nat → Int32} {Rel Rel2 : e_I → e_L → Prop} (hC : e_C X cL_law RL 7 (some .boolean) 40 gN) (hX : e_SC X N xs) {x : Int32} (I : e_I) (L : e_L) (hrel0 : Rel I L) (hS : ST_where Rel Rel2) (hK : ∀ (I : e_I) (L : e_L), Rel2 I L → Z X Q 1817 [(0, .ref 4000), (1, .ref 0), (2, .ref 83), (3, .ref 97), (4, .int x)] [] I L) : Z X Q 327 [(0, .ref 4000), (1, .ref 0), (2, .ref 83), (3, .ref 97), (4, .int x)] [] I L := by
  obtain ⟨r, I2, q7, q8, hrel⟩ := hS  I L hrel0
  refine z_aload_n hC dL_law_327 rfl 1 rfl ?_
  refine zc_i hC [] [] me_X7_where mlL_33 im_X7_where se_X7_where rfl (by decide) at_0 (ci := 7) (T_X7_where I L _ q7) (by decide) rfl (Nat.le_of_ble_eq_true rfl) dL_law_328 rfl ?_
  refine z_aload_n hC dL_law_331 rfl 2 rfl ?_
  refine zc_iI hC [] [.int r] me_X8_where mlL_36 im_X8_where se_X8_where rfl (by decide) at_83 (ci := 8) (T_X8_where I L _ q8) (by decide) rfl (Nat.le_of_ble_eq_true rfl) dL_law_332 rfl ?_
  exact z_icmp_eq (tgt := 1817) hC dL_law_335 (by decide) (fun _ => hK _ _ hrel) (fun h => absurd rfl h)
def ST_about (Rel Rel2 : e_I → e_L → Prop) : Prop := ∀ (a1 : Int32) (I : e_I) (L : e_L), Rel I L → ∃ (r : Int32) (I1 : e_I) (I2 : e_I), f_X7_about a1 I = some (r, I1) ∧ f_X8_about a1 I1 = some (r, I2) ∧ Rel2 I2 L
set_option maxRecDepth 100000 in
set_option maxHeartbeats 4000000 in
theorem LC_about {X : e_X} {Q : State → Prop} {N : Nat} {xs : Nat → Int32} {Rel Rel2 : e_I → e_L → Prop} (hC : e_C X cL_law RL 7 (some .boolean) 40 gN) (hX : e_SC X N xs) {x : Int32} (h1 : vp_in (x + 1) N) {a1 : Int32} (e1 : xs (x + 1).toNatClampNeg = a1) (I : e_I) (L : e_L) (hrel0 : Rel I L) (hS : ST_about Rel Rel2) (hK : ∀ (I : e_I) (L : e_L), Rel2 I L → Z X Q 1817 [(0, .ref 4000), (1, .ref 0), (2, .ref 83), (3, .ref 97), (4, .int x)] [] I L) : Z X Q 340 [(0, .ref 4000), (1, .ref 0), (2, .ref 83), (3, .ref 97), (4, .int x)] [] I L := by
  obtain ⟨r, I1, I2, q7, q8, hrel⟩ := hS a1 I L hrel0
  refine z_aload_n hC dL_law_340 rfl 1 rfl ?_
  refine z_aload_n hC dL_law_341 rfl 0 rfl ?_
  refine z_iload hC dL_law_342 4 rfl ?_
  refine z_iconst (v := 1) hC (by decide) dL_law_344 ?_
  refine z_iadd hC dL_law_345 ?_
  refine z_sld hC hX h1 dL_law_346 ?_
  rw [e1]
  refine zc_iI hC [.int a1] [] me_X7_about mlL_37 im_X7_about se_X7_about rfl (by decide) at_0 (ci := 7) (T_X7_about a1 I L _ q7) (by decide) rfl (Nat.le_of_ble_eq_true rfl) dL_law_347 rfl ?_
  refine z_aload_n hC dL_law_350 rfl 2 rfl ?_
  refine z_aload_n hC dL_law_351 rfl 0 rfl ?_
  refine z_iload hC dL_law_352 4 rfl ?_
  refine z_iconst (v := 1) hC (by decide) dL_law_354 ?_
  refine z_iadd hC dL_law_355 ?_
  refine z_sld hC hX h1 dL_law_356 ?_
  rw [e1]
  refine zc_iI hC [.int a1] [.int r] me_X8_about mlL_40 im_X8_about se_X8_about rfl (by decide) at_83 (ci := 8) (T_X8_about a1 I1 L _ q8) (by decide) rfl (Nat.le_of_ble_eq_true rfl) dL_law_357 rfl ?_
  exact z_icmp_eq (tgt := 1817) hC dL_law_360 (by decide) (fun _ => hK _ _ hrel) (fun h => absurd rfl h)
def ST_rule (Rel Rel2 : e_I → e_L → Prop) : Prop := ∀ (a1 : Int32) (I : e_I) (L : e_L), Rel I L → ∃ (r : Int32) (I1 : e_I) (I2 : e_I), f_X7_rule a1 I = some (r, I1) ∧ f_X8_rule a1 I1 = some (r, I2) ∧ Rel2 I2 L
set_option maxRecDepth 100000 in
set_option maxHeartbeats 4000000 in
theorem LC_rule {X : e_X} {Q : State → Prop} {N : Nat} {xs : Nat → Int32} {Rel Rel2 : e_I → e_L → Prop} (hC : e_C X cL_law RL 7 (some .boolean) 40 gN) (hX : e_SC X N xs) {x : Int32} (h1 : vp_in (x + 1) N) {a1 : Int32} (e1 : xs (x + 1).toNatClampNeg = a1) (I : e_I) (L : e_L) (hrel0 : Rel I L) (hS : ST_rule Rel Rel2) (hK : ∀ (I : e_I) (L : e_L), Rel2 I L → Z X Q 1817 [(0, .ref 4000), (1, .ref 0), (2, .ref 83), (3, .ref 97), (4, .int x)] [] I L) : Z X Q 365 [(0, .ref 4000), (1, .ref 0), (2, .ref 83), (3, .ref 97), (4, .int x)] [] I L := by
  obtain ⟨r, I1, I2, q7, q8, hrel⟩ := hS a1 I L hrel0
  refine z_aload_n hC dL_law_365 rfl 1 rfl ?_
  refine z_aload_n hC dL_law_366 rfl 0 rfl ?_
  refine z_iload hC dL_law_367 4 rfl ?_
  refine z_iconst (v := 1) hC (by decide) dL_law_369 ?_
  refine z_iadd hC dL_law_370 ?_
  refine z_sld hC hX h1 dL_law_371 ?_
  rw [e1]
  refine zc_iI hC [.int a1] [] me_X7_rule mlL_41 im_X7_rule se_X7_rule rfl (by decide) at_0 (ci := 7) (T_X7_rule a1 I L _ q7) (by decide) rfl (Nat.le_of_ble_eq_true rfl) dL_law_372 rfl ?_
  refine z_aload_n hC dL_law_375 rfl 2 rfl ?_
  refine z_aload_n hC dL_law_376 rfl 0 rfl ?_
  refine z_iload hC dL_law_377 4 rfl ?_
  refine z_iconst (v := 1) hC (by decide) dL_law_379 ?_
  refine z_iadd hC dL_law_380 ?_
  refine z_sld hC hX h1 dL_law_381 ?_
  rw [e1]
  refine zc_iI hC [.int a1] [.int r] me_X8_rule mlL_44 im_X8_rule se_X8_rule rfl (by decide) at_83 (ci := 8) (T_X8_rule a1 I1 L _ q8) (by decide) rfl (Nat.le_of_ble_eq_true rfl) dL_law_382 rfl ?_
  exact z_icmp_eq (tgt := 1817) hC dL_law_385 (by decide) (fun _ => hK _ _ hrel) (fun h => absurd rfl h)
def ST_batter (Rel Rel2 : e_I → e_L → Prop) : Prop := ∀ (a1 : Int32) (a2 : Int32) (I : e_I) (L : e_L), Rel I L → ∃ (r : Int32) (I1 : e_I) (I2 : e_I), f_X7_batter a1 a2 I = some (r, I1) ∧ f_X8_batter a1 a2 I1 = some (r, I2) ∧ Rel2 I2 L
set_option maxRecDepth 100000 in
set_option maxHeartbeats 4000000 in
theorem LC_batter {X : e_X} {Q : State → Prop} {N : Nat} {xs : Nat → Int32} {Rel Rel2 : e_I → e_L → Prop} (hC : e_C X cL_law RL 7 (some .boolean) 40 gN) (hX : e_SC X N xs) {x : Int32} (h1 : vp_in (x + 1) N) {a1 : Int32} (e1 : xs (x + 1).toNatClampNeg = a1) (h2 : vp_in (x + 2) N) {a2 : Int32} (e2 : xs (x + 2).toNatClampNeg = a2) (I : e_I) (L : e_L) (hrel0 : Rel I L) (hS : ST_batter Rel Rel2) (hK : ∀ (I : e_I) (L : e_L), Rel2 I L → Z X Q 1817 [(0, .ref 4000), (1, .ref 0), (2, .ref 83), (3, .ref 97), (4, .int x)] [] I L) : Z X Q 390 [(0, .ref 4000), (1, .ref 0), (2, .ref 83), (3, .ref 97), (4, .int x)] [] I L := by
  obtain ⟨r, I1, I2, q7, q8, hrel⟩ := hS a1 a2 I L hrel0
  refine z_aload_n hC dL_law_390 rfl 1 rfl ?_
  refine z_aload_n hC dL_law_391 rfl 0 rfl ?_
  refine z_iload hC dL_law_392 4 rfl ?_
  refine z_iconst (v := 1) hC (by decide) dL_law_394 ?_
  refine z_iadd hC dL_law_395 ?_
  refine z_sld hC hX h1 dL_law_396 ?_
  rw [e1]
  refine z_aload_n hC dL_law_397 rfl 0 rfl ?_
  refine z_iload hC dL_law_398 4 rfl ?_
  refine z_iconst (v := 2) hC (by decide) dL_law_400 ?_
  refine z_iadd hC dL_law_401 ?_
  refine z_sld hC hX h2 dL_law_402 ?_
  rw [e2]
  refine zc_iI hC [.int a1, .int a2] [] me_X7_batter mlL_45 im_X7_batter se_X7_batter rfl (by decide) at_0 (ci := 7) (T_X7_batter a1 a2 I L _ q7) (by decide) rfl (Nat.le_of_ble_eq_true rfl) dL_law_403 rfl ?_
  refine z_aload_n hC dL_law_406 rfl 2 rfl ?_
  refine z_aload_n hC dL_law_407 rfl 0 rfl ?_
  refine z_iload hC dL_law_408 4 rfl ?_
  refine z_iconst (v := 1) hC (by decide) dL_law_410 ?_
  refine z_iadd hC dL_law_411 ?_
  refine z_sld hC hX h1 dL_law_412 ?_
  rw [e1]
  refine z_aload_n hC dL_law_413 rfl 0 rfl ?_
  refine z_iload hC dL_law_414 4 rfl ?_
  refine z_iconst (v := 2) hC (by decide) dL_law_416 ?_
  refine z_iadd hC dL_law_417 ?_
  refine z_sld hC hX h2 dL_law_418 ?_
  rw [e2]
  refine zc_iI hC [.int a1, .int a2] [.int r] me_X8_batter mlL_49 im_X8_batter se_X8_batter rfl (by decide) at_83 (ci := 8) (T_X8_batter a1 a2 I1 L _ q8) (by decide) rfl (Nat.le_of_ble_eq_true rfl) dL_law_419 rfl ?_
  exact z_icmp_eq (tgt := 1817) hC dL_law_422 (by decide) (fun _ => hK _ _ hrel) (fun h => absurd rfl h)
def ST_place (Rel Rel2 : e_I → e_L → Prop) : Prop := ∀ (a1 : Int32) (I : e_I) (L : e_L), Rel I L → ∃ (r : Int32) (I1 : e_I) (I2 : e_I), f_X7_place a1 I = some (r, I1) ∧ f_X8_place a1 I1 = some (r, I2) ∧ Rel2 I2 L
set_option maxRecDepth 100000 in
set_option maxHeartbeats 4000000 in
theorem LC_place {X : e_X} {Q : State → Prop} {N : Nat} {xs : Nat → Int32} {Rel Rel2 : e_I → e_L → Prop} (hC : e_C X cL_law RL 7 (some .boolean) 40 gN) (hX : e_SC X N xs) {x : Int32} (h1 : vp_in (x + 1) N) {a1 : Int32} (e1 : xs (x + 1).toNatClampNeg = a1) (I : e_I) (L : e_L) (hrel0 : Rel I L) (hS : ST_place Rel Rel2) (hK : ∀ (I : e_I) (L : e_L), Rel2 I L → Z X Q 1817 [(0, .ref 4000), (1, .ref 0), (2, .ref 83), (3, .ref 97), (4, .int x)] [] I L) : Z X Q 427 [(0, .ref 4000), (1, .ref 0), (2, .ref 83), (3, .ref 97), (4, .int x)] [] I L := by
  obtain ⟨r, I1, I2, q7, q8, hrel⟩ := hS a1 I L hrel0
  refine z_aload_n hC dL_law_427 rfl 1 rfl ?_
  refine z_aload_n hC dL_law_428 rfl 0 rfl ?_
  refine z_iload hC dL_law_429 4 rfl ?_
  refine z_iconst (v := 1) hC (by decide) dL_law_431 ?_
  refine z_iadd hC dL_law_432 ?_
  refine z_sld hC hX h1 dL_law_433 ?_
  rw [e1]
  refine zc_iI hC [.int a1] [] me_X7_place mlL_50 im_X7_place se_X7_place rfl (by decide) at_0 (ci := 7) (T_X7_place a1 I L _ q7) (by decide) rfl (Nat.le_of_ble_eq_true rfl) dL_law_434 rfl ?_
  refine z_aload_n hC dL_law_437 rfl 2 rfl ?_
  refine z_aload_n hC dL_law_438 rfl 0 rfl ?_
  refine z_iload hC dL_law_439 4 rfl ?_
  refine z_iconst (v := 1) hC (by decide) dL_law_441 ?_
  refine z_iadd hC dL_law_442 ?_
  refine z_sld hC hX h1 dL_law_443 ?_
  rw [e1]
  refine zc_iI hC [.int a1] [.int r] me_X8_place mlL_53 im_X8_place se_X8_place rfl (by decide) at_83 (ci := 8) (T_X8_place a1 I1 L _ q8) (by decide) rfl (Nat.le_of_ble_eq_true rfl) dL_law_444 rfl ?_
  exact z_icmp_eq (tgt := 1817) hC dL_law_447 (by decide) (fun _ => hK _ _ hrel) (fun h => absurd rfl h)
def ST_coming (Rel Rel2 : e_I → e_L → Prop) : Prop := ∀ (a1 : Int32) (I : e_I) (L : e_L), Rel I L → ∃ (r : Int32) (I1 : e_I) (I2 : e_I), f_X7_coming a1 I = some (r, I1) ∧ f_X8_coming a1 I1 = some (r, I2) ∧ Rel2 I2 L
set_option maxRecDepth 100000 in
set_option maxHeartbeats 4000000 in
theorem LC_coming {X : e_X} {Q : State → Prop} {N : Nat} {xs : Nat → Int32} {Rel Rel2 : e_I → e_L → Prop} (hC : e_C X cL_law RL 7 (some .boolean) 40 gN) (hX : e_SC X N xs) {x : Int32} (h1 : vp_in (x + 1) N) {a1 : Int32} (e1 : xs (x + 1).toNatClampNeg = a1) (I : e_I) (L : e_L) (hrel0 : Rel I L) (hS : ST_coming Rel Rel2) (hK : ∀ (I : e_I) (L : e_L), Rel2 I L → Z X Q 1817 [(0, .ref 4000), (1, .ref 0), (2, .ref 83), (3, .ref 97), (4, .int x)] [] I L) : Z X Q 452 [(0, .ref 4000), (1, .ref 0), (2, .ref 83), (3, .ref 97), (4, .int x)] [] I L := by
  obtain ⟨r, I1, I2, q7, q8, hrel⟩ := hS a1 I L hrel0
  refine z_aload_n hC dL_law_452 rfl 1 rfl ?_
  refine z_aload_n hC dL_law_453 rfl 0 rfl ?_
  refine z_iload hC dL_law_454 4 rfl ?_
  refine z_iconst (v := 1) hC (by decide) dL_law_456 ?_
  refine z_iadd hC dL_law_457 ?_
  refine z_sld hC hX h1 dL_law_458 ?_
  rw [e1]
  refine zc_iI hC [.int a1] [] me_X7_coming mlL_54 im_X7_coming se_X7_coming rfl (by decide) at_0 (ci := 7) (T_X7_coming a1 I L _ q7) (by decide) rfl (Nat.le_of_ble_eq_true rfl) dL_law_459 rfl ?_
  refine z_aload_n hC dL_law_462 rfl 2 rfl ?_
  refine z_aload_n hC dL_law_463 rfl 0 rfl ?_
  refine z_iload hC dL_law_464 4 rfl ?_
  refine z_iconst (v := 1) hC (by decide) dL_law_466 ?_
  refine z_iadd hC dL_law_467 ?_
  refine z_sld hC hX h1 dL_law_468 ?_
  rw [e1]
  refine zc_iI hC [.int a1] [.int r] me_X8_coming mlL_57 im_X8_coming se_X8_coming rfl (by decide) at_83 (ci := 8) (T_X8_coming a1 I1 L _ q8) (by decide) rfl (Nat.le_of_ble_eq_true rfl) dL_law_469 rfl ?_
  exact z_icmp_eq (tgt := 1817) hC dL_law_472 (by decide) (fun _ => hK _ _ hrel) (fun h => absurd rfl h)
def ST_chance (Rel Rel2 : e_I → e_L → Prop) : Prop := ∀ (a1 : Int32) (a2 : Int32) (a3 : Int32) (I : e_I) (L : e_L), Rel I L → ∃ (r : Int32) (I1 : e_I) (I2 : e_I), f_X7_chance a1 a2 a3 I = some (r, I1) ∧ f_X8_chance a1 a2 a3 I1 = some (r, I2) ∧ Rel2 I2 L
set_option maxRecDepth 100000 in
set_option maxHeartbeats 4000000 in
theorem LC_chance {X : e_X} {Q : State → Prop} {N : Nat} {xs : Nat → Int32} {Rel Rel2 : e_I → e_L → Prop} (hC : e_C X cL_law RL 7 (some .boolean) 40 gN) (hX : e_SC X N xs) {x : Int32} (h1 : vp_in (x + 1) N) {a1 : Int32} (e1 : xs (x + 1).toNatClampNeg = a1) (h2 : vp_in (x + 2) N) {a2 : Int32} (e2 : xs (x + 2).toNatClampNeg = a2) (h3 : vp_in (x + 3) N) {a3 : Int32} (e3 : xs (x + 3).toNatClampNeg = a3) (I : e_I) (L : e_L) (hrel0 : Rel I L) (hS : ST_chance Rel Rel2) (hK : ∀ (I : e_I) (L : e_L), Rel2 I L → Z X Q 1817 [(0, .ref 4000), (1, .ref 0), (2, .ref 83), (3, .ref 97), (4, .int x)] [] I L) : Z X Q 477 [(0, .ref 4000), (1, .ref 0), (2, .ref 83), (3, .ref 97), (4, .int x)] [] I L := by
  obtain ⟨r, I1, I2, q7, q8, hrel⟩ := hS a1 a2 a3 I L hrel0
  refine z_aload_n hC dL_law_477 rfl 1 rfl ?_
  refine z_aload_n hC dL_law_478 rfl 0 rfl ?_
  refine z_iload hC dL_law_479 4 rfl ?_
  refine z_iconst (v := 1) hC (by decide) dL_law_481 ?_
  refine z_iadd hC dL_law_482 ?_
  refine z_sld hC hX h1 dL_law_483 ?_
  rw [e1]
  refine z_aload_n hC dL_law_484 rfl 0 rfl ?_
  refine z_iload hC dL_law_485 4 rfl ?_
  refine z_iconst (v := 2) hC (by decide) dL_law_487 ?_
  refine z_iadd hC dL_law_488 ?_
  refine z_sld hC hX h2 dL_law_489 ?_
  rw [e2]
  refine z_aload_n hC dL_law_490 rfl 0 rfl ?_
  refine z_iload hC dL_law_491 4 rfl ?_
  refine z_iconst (v := 3) hC (by decide) dL_law_493 ?_
  refine z_iadd hC dL_law_494 ?_
  refine z_sld hC hX h3 dL_law_495 ?_
  rw [e3]
  refine zc_iI hC [.int a1, .int a2, .int a3] [] me_X7_chance mlL_58 im_X7_chance se_X7_chance rfl (by decide) at_0 (ci := 7) (T_X7_chance a1 a2 a3 I L _ q7) (by decide) rfl (Nat.le_of_ble_eq_true rfl) dL_law_496 rfl ?_
  refine z_aload_n hC dL_law_499 rfl 2 rfl ?_
  refine z_aload_n hC dL_law_500 rfl 0 rfl ?_
  refine z_iload hC dL_law_501 4 rfl ?_
  refine z_iconst (v := 1) hC (by decide) dL_law_503 ?_
  refine z_iadd hC dL_law_504 ?_
  refine z_sld hC hX h1 dL_law_505 ?_
  rw [e1]
  refine z_aload_n hC dL_law_506 rfl 0 rfl ?_
  refine z_iload hC dL_law_507 4 rfl ?_
  refine z_iconst (v := 2) hC (by decide) dL_law_509 ?_
  refine z_iadd hC dL_law_510 ?_
  refine z_sld hC hX h2 dL_law_511 ?_
  rw [e2]
  refine z_aload_n hC dL_law_512 rfl 0 rfl ?_
  refine z_iload hC dL_law_513 4 rfl ?_
  refine z_iconst (v := 3) hC (by decide) dL_law_515 ?_
  refine z_iadd hC dL_law_516 ?_
  refine z_sld hC hX h3 dL_law_517 ?_
  rw [e3]
  refine zc_iI hC [.int a1, .int a2, .int a3] [.int r] me_X8_chance mlL_62 im_X8_chance se_X8_chance rfl (by decide) at_83 (ci := 8) (T_X8_chance a1 a2 a3 I1 L _ q8) (by decide) rfl (Nat.le_of_ble_eq_true rfl) dL_law_518 rfl ?_
  exact z_icmp_eq (tgt := 1817) hC dL_law_521 (by decide) (fun _ => hK _ _ hrel) (fun h => absurd rfl h)
def ST_after (Rel Rel2 : e_I → e_L → Prop) : Prop := ∀ (a1 : Int32) (a2 : Int32) (a3 : Int32) (a4 : Int32) (I : e_I) (L : e_L), Rel I L → ∃ (r : Int32) (I1 : e_I) (I2 : e_I), f_X7_after a1 a2 a3 a4 I = some (r, I1) ∧ f_X8_after a1 a2 a3 a4 I1 = some (r, I2) ∧ Rel2 I2 L
set_option maxRecDepth 100000 in
set_option maxHeartbeats 4000000 in
theorem LC_after {X : e_X} {Q : State → Prop} {N : Nat} {xs : Nat → Int32} {Rel Rel2 : e_I → e_L → Prop} (hC : e_C X cL_law RL 7 (some .boolean) 40 gN) (hX : e_SC X N xs) {x : Int32} (h1 : vp_in (x + 1) N) {a1 : Int32} (e1 : xs (x + 1).toNatClampNeg = a1) (h2 : vp_in (x + 2) N) {a2 : Int32} (e2 : xs (x + 2).toNatClampNeg = a2) (h3 : vp_in (x + 3) N) {a3 : Int32} (e3 : xs (x + 3).toNatClampNeg = a3) (h4 : vp_in (x + 4) N) {a4 : Int32} (e4 : xs (x + 4).toNatClampNeg = a4) (I : e_I) (L : e_L) (hrel0 : Rel I L) (hS : ST_after Rel Rel2) (hK : ∀ (I : e_I) (L : e_L), Rel2 I L → Z X Q 1817 [(0, .ref 4000), (1, .ref 0), (2, .ref 83), (3, .ref 97), (4, .int x)] [] I L) : Z X Q 526 [(0, .ref 4000), (1, .ref 0), (2, .ref 83), (3, .ref 97), (4, .int x)] [] I L := by
  obtain ⟨r, I1, I2, q7, q8, hrel⟩ := hS a1 a2 a3 a4 I L hrel0
  refine z_aload_n hC dL_law_526 rfl 1 rfl ?_
  refine z_aload_n hC dL_law_527 rfl 0 rfl ?_
  refine z_iload hC dL_law_528 4 rfl ?_
  refine z_iconst (v := 1) hC (by decide) dL_law_530 ?_
  refine z_iadd hC dL_law_531 ?_
  refine z_sld hC hX h1 dL_law_532 ?_
  rw [e1]
  refine z_aload_n hC dL_law_533 rfl 0 rfl ?_
  refine z_iload hC dL_law_534 4 rfl ?_
  refine z_iconst (v := 2) hC (by decide) dL_law_536 ?_
  refine z_iadd hC dL_law_537 ?_
  refine z_sld hC hX h2 dL_law_538 ?_
  rw [e2]
  refine z_aload_n hC dL_law_539 rfl 0 rfl ?_
  refine z_iload hC dL_law_540 4 rfl ?_
  refine z_iconst (v := 3) hC (by decide) dL_law_542 ?_
  refine z_iadd hC dL_law_543 ?_
  refine z_sld hC hX h3 dL_law_544 ?_
  rw [e3]
  refine z_aload_n hC dL_law_545 rfl 0 rfl ?_
  refine z_iload hC dL_law_546 4 rfl ?_
  refine z_iconst (v := 4) hC (by decide) dL_law_548 ?_
  refine z_iadd hC dL_law_549 ?_
  refine z_sld hC hX h4 dL_law_550 ?_
  rw [e4]
  refine zc_iI hC [.int a1, .int a2, .int a3, .int a4] [] me_X7_after mlL_63 im_X7_after se_X7_after rfl (by decide) at_0 (ci := 7) (T_X7_after a1 a2 a3 a4 I L _ q7) (by decide) rfl (Nat.le_of_ble_eq_true rfl) dL_law_551 rfl ?_
  refine z_aload_n hC dL_law_554 rfl 2 rfl ?_
  refine z_aload_n hC dL_law_555 rfl 0 rfl ?_
  refine z_iload hC dL_law_556 4 rfl ?_
  refine z_iconst (v := 1) hC (by decide) dL_law_558 ?_
  refine z_iadd hC dL_law_559 ?_
  refine z_sld hC hX h1 dL_law_560 ?_
  rw [e1]
  refine z_aload_n hC dL_law_561 rfl 0 rfl ?_
  refine z_iload hC dL_law_562 4 rfl ?_
  refine z_iconst (v := 2) hC (by decide) dL_law_564 ?_
  refine z_iadd hC dL_law_565 ?_
  refine z_sld hC hX h2 dL_law_566 ?_
  rw [e2]
  refine z_aload_n hC dL_law_567 rfl 0 rfl ?_
  refine z_iload hC dL_law_568 4 rfl ?_
  refine z_iconst (v := 3) hC (by decide) dL_law_570 ?_
  refine z_iadd hC dL_law_571 ?_
  refine z_sld hC hX h3 dL_law_572 ?_
  rw [e3]
  refine z_aload_n hC dL_law_573 rfl 0 rfl ?_
  refine z_iload hC dL_law_574 4 rfl ?_
  refine z_iconst (v := 4) hC (by decide) dL_law_576 ?_
  refine z_iadd hC dL_law_577 ?_
  refine z_sld hC hX h4 dL_law_578 ?_
  rw [e4]
  refine zc_iI hC [.int a1, .int a2, .int a3, .int a4] [.int r] me_X8_after mlL_67 im_X8_after se_X8_after rfl (by decide) at_83 (ci := 8) (T_X8_after a1 a2 a3 a4 I1 L _ q8) (by decide) rfl (Nat.le_of_ble_eq_true rfl) dL_law_579 rfl ?_
  exact z_icmp_eq (tgt := 1817) hC dL_law_582 (by decide) (fun _ => hK _ _ hrel) (fun h => absurd rfl h)
def ST_plain (Rel Rel2 : e_I → e_L → Prop) : Prop := ∀ (a1 : Int32) (a2 : Int32) (a3 : Int32) (a4 : Int32) (I : e_I) (L : e_L), Rel I L → ∃ (r : Int64) (I1 : e_I) (L1 : e_L) (I2 : e_I) (L2 : e_L), f_X7_plain a1 a2 a3 a4 I L = some (r, I1, L1) ∧ f_X8_plain a1 a2 a3 a4 I1 L1 = some (r, I2, L2) ∧ Rel2 I2 L2
set_option maxRecDepth 100000 in
set_option maxHeartbeats 4000000 in
theorem LC_plain {X : e_X} {Q : State → Prop} {N : Nat} {xs : Nat → Int32} {Rel Rel2 : e_I → e_L → Prop} (hC : e_C X cL_law RL 7 (some .boolean) 40 gN) (hX : e_SC X N xs) {x : Int32} (h1 : vp_in (x + 1) N) {a1 : Int32} (e1 : xs (x + 1).toNatClampNeg = a1) (h2 : vp_in (x + 2) N) {a2 : Int32} (e2 : xs (x + 2).toNatClampNeg = a2) (h3 : vp_in (x + 3) N) {a3 : Int32} (e3 : xs (x + 3).toNatClampNeg = a3) (h4 : vp_in (x + 4) N) {a4 : Int32} (e4 : xs (x + 4).toNatClampNeg = a4) (I : e_I) (L : e_L) (hrel0 : Rel I L) (hS : ST_plain Rel Rel2) (hK : ∀ (I : e_I) (L : e_L), Rel2 I L → Z X Q 1817 [(0, .ref 4000), (1, .ref 0), (2, .ref 83), (3, .ref 97), (4, .int x)] [] I L) : Z X Q 587 [(0, .ref 4000), (1, .ref 0), (2, .ref 83), (3, .ref 97), (4, .int x)] [] I L := by
  obtain ⟨r, I1, L1, I2, L2, q7, q8, hrel⟩ := hS a1 a2 a3 a4 I L hrel0
  refine z_aload_n hC dL_law_587 rfl 1 rfl ?_
  refine z_aload_n hC dL_law_588 rfl 0 rfl ?_
  refine z_iload hC dL_law_589 4 rfl ?_
  refine z_iconst (v := 1) hC (by decide) dL_law_591 ?_
  refine z_iadd hC dL_law_592 ?_
  refine z_sld hC hX h1 dL_law_593 ?_
  rw [e1]
  refine z_aload_n hC dL_law_594 rfl 0 rfl ?_
  refine z_iload hC dL_law_595 4 rfl ?_
  refine z_iconst (v := 2) hC (by decide) dL_law_597 ?_
  refine z_iadd hC dL_law_598 ?_
  refine z_sld hC hX h2 dL_law_599 ?_
  rw [e2]
  refine z_aload_n hC dL_law_600 rfl 0 rfl ?_
  refine z_iload hC dL_law_601 4 rfl ?_
  refine z_iconst (v := 3) hC (by decide) dL_law_603 ?_
  refine z_iadd hC dL_law_604 ?_
  refine z_sld hC hX h3 dL_law_605 ?_
  rw [e3]
  refine z_aload_n hC dL_law_606 rfl 0 rfl ?_
  refine z_iload hC dL_law_607 4 rfl ?_
  refine z_iconst (v := 4) hC (by decide) dL_law_609 ?_
  refine z_iadd hC dL_law_610 ?_
  refine z_sld hC hX h4 dL_law_611 ?_
  rw [e4]
  refine zc_lIL hC [.int a1, .int a2, .int a3, .int a4] [] me_X7_plain mlL_68 im_X7_plain se_X7_plain rfl (by decide) at_0 (ci := 7) (T_X7_plain a1 a2 a3 a4 I L _ q7) (by decide) rfl (Nat.le_of_ble_eq_true rfl) dL_law_612 rfl ?_
  refine z_aload_n hC dL_law_615 rfl 2 rfl ?_
  refine z_aload_n hC dL_law_616 rfl 0 rfl ?_
  refine z_iload hC dL_law_617 4 rfl ?_
  refine z_iconst (v := 1) hC (by decide) dL_law_619 ?_
  refine z_iadd hC dL_law_620 ?_
  refine z_sld hC hX h1 dL_law_621 ?_
  rw [e1]
  refine z_aload_n hC dL_law_622 rfl 0 rfl ?_
  refine z_iload hC dL_law_623 4 rfl ?_
  refine z_iconst (v := 2) hC (by decide) dL_law_625 ?_
  refine z_iadd hC dL_law_626 ?_
  refine z_sld hC hX h2 dL_law_627 ?_
  rw [e2]
  refine z_aload_n hC dL_law_628 rfl 0 rfl ?_
  refine z_iload hC dL_law_629 4 rfl ?_
  refine z_iconst (v := 3) hC (by decide) dL_law_631 ?_
  refine z_iadd hC dL_law_632 ?_
  refine z_sld hC hX h3 dL_law_633 ?_
  rw [e3]
  refine z_aload_n hC dL_law_634 rfl 0 rfl ?_
  refine z_iload hC dL_law_635 4 rfl ?_
  refine z_iconst (v := 4) hC (by decide) dL_law_637 ?_
  refine z_iadd hC dL_law_638 ?_
  refine z_sld hC hX h4 dL_law_639 ?_
  rw [e4]
  refine zc_lIL hC [.int a1, .int a2, .int a3, .int a4] [.long r] me_X8_plain mlL_72 im_X8_plain se_X8_plain rfl (by decide) at_83 (ci := 8) (T_X8_plain a1 a2 a3 a4 I1 L1 _ q8) (by decide) rfl (Nat.le_of_ble_eq_true rfl) dL_law_640 rfl ?_
  refine z_lcmp hC dL_law_643 ?_
  exact z_if_eq (tgt := 1817) hC dL_law_644 (by decide) (fun _ => hK _ _ hrel) (fun h => absurd (lg_cmp_self r) h)
def ST_any (Rel Rel2 : e_I → e_L → Prop) : Prop := ∀ (a1 : Int32) (a2 : Int32) (a3 : Int32) (a4 : Int32) (I : e_I) (L : e_L), Rel I L → ∃ (r : Int64) (I1 : e_I) (L1 : e_L) (I2 : e_I) (L2 : e_L), f_X7_any a1 a2 a3 a4 I L = some (r, I1, L1) ∧ f_X8_any a1 a2 a3 a4 I1 L1 = some (r, I2, L2) ∧ Rel2 I2 L2
set_option maxRecDepth 100000 in
set_option maxHeartbeats 4000000 in
theorem LC_any {X : e_X} {Q : State → Prop} {N : Nat} {xs : Nat → Int32} {Rel Rel2 : e_I → e_L → Prop} (hC : e_C X cL_law RL 7 (some .boolean) 40 gN) (hX : e_SC X N xs) {x : Int32} (h1 : vp_in (x + 1) N) {a1 : Int32} (e1 : xs (x + 1).toNatClampNeg = a1) (h2 : vp_in (x + 2) N) {a2 : Int32} (e2 : xs (x + 2).toNatClampNeg = a2) (h3 : vp_in (x + 3) N) {a3 : Int32} (e3 : xs (x + 3).toNatClampNeg = a3) (h4 : vp_in (x + 4) N) {a4 : Int32} (e4 : xs (x + 4).toNatClampNeg = a4) (I : e_I) (L : e_L) (hrel0 : Rel I L) (hS : ST_any Rel Rel2) (hK : ∀ (I : e_I) (L : e_L), Rel2 I L → Z X Q 1817 [(0, .ref 4000), (1, .ref 0), (2, .ref 83), (3, .ref 97), (4, .int x)] [] I L) : Z X Q 649 [(0, .ref 4000), (1, .ref 0), (2, .ref 83), (3, .ref 97), (4, .int x)] [] I L := by
  obtain ⟨r, I1, L1, I2, L2, q7, q8, hrel⟩ := hS a1 a2 a3 a4 I L hrel0
  refine z_aload_n hC dL_law_649 rfl 1 rfl ?_
  refine z_aload_n hC dL_law_650 rfl 0 rfl ?_
  refine z_iload hC dL_law_651 4 rfl ?_
  refine z_iconst (v := 1) hC (by decide) dL_law_653 ?_
  refine z_iadd hC dL_law_654 ?_
  refine z_sld hC hX h1 dL_law_655 ?_
  rw [e1]
  refine z_aload_n hC dL_law_656 rfl 0 rfl ?_
  refine z_iload hC dL_law_657 4 rfl ?_
  refine z_iconst (v := 2) hC (by decide) dL_law_659 ?_
  refine z_iadd hC dL_law_660 ?_
  refine z_sld hC hX h2 dL_law_661 ?_
  rw [e2]
  refine z_aload_n hC dL_law_662 rfl 0 rfl ?_
  refine z_iload hC dL_law_663 4 rfl ?_
  refine z_iconst (v := 3) hC (by decide) dL_law_665 ?_
  refine z_iadd hC dL_law_666 ?_
  refine z_sld hC hX h3 dL_law_667 ?_
  rw [e3]
  refine z_aload_n hC dL_law_668 rfl 0 rfl ?_
  refine z_iload hC dL_law_669 4 rfl ?_
  refine z_iconst (v := 4) hC (by decide) dL_law_671 ?_
  refine z_iadd hC dL_law_672 ?_
  refine z_sld hC hX h4 dL_law_673 ?_
  rw [e4]
  refine zc_lIL hC [.int a1, .int a2, .int a3, .int a4] [] me_X7_any mlL_73 im_X7_any se_X7_any rfl (by decide) at_0 (ci := 7) (T_X7_any a1 a2 a3 a4 I L _ q7) (by decide) rfl (Nat.le_of_ble_eq_true rfl) dL_law_674 rfl ?_
  refine z_aload_n hC dL_law_677 rfl 2 rfl ?_
  refine z_aload_n hC dL_law_678 rfl 0 rfl ?_
  refine z_iload hC dL_law_679 4 rfl ?_
  refine z_iconst (v := 1) hC (by decide) dL_law_681 ?_
  refine z_iadd hC dL_law_682 ?_
  refine z_sld hC hX h1 dL_law_683 ?_
  rw [e1]
  refine z_aload_n hC dL_law_684 rfl 0 rfl ?_
  refine z_iload hC dL_law_685 4 rfl ?_
  refine z_iconst (v := 2) hC (by decide) dL_law_687 ?_
  refine z_iadd hC dL_law_688 ?_
  refine z_sld hC hX h2 dL_law_689 ?_
  rw [e2]
  refine z_aload_n hC dL_law_690 rfl 0 rfl ?_
  refine z_iload hC dL_law_691 4 rfl ?_
  refine z_iconst (v := 3) hC (by decide) dL_law_693 ?_
  refine z_iadd hC dL_law_694 ?_
  refine z_sld hC hX h3 dL_law_695 ?_
  rw [e3]
  refine z_aload_n hC dL_law_696 rfl 0 rfl ?_
  refine z_iload hC dL_law_697 4 rfl ?_
  refine z_iconst (v := 4) hC (by decide) dL_law_699 ?_
  refine z_iadd hC dL_law_700 ?_
  refine z_sld hC hX h4 dL_law_701 ?_
  rw [e4]
  refine zc_lIL hC [.int a1, .int a2, .int a3, .int a4] [.long r] me_X8_any mlL_76 im_X8_any se_X8_any rfl (by decide) at_83 (ci := 8) (T_X8_any a1 a2 a3 a4 I1 L1 _ q8) (by decide) rfl (Nat.le_of_ble_eq_true rfl) dL_law_702 rfl ?_
  refine z_lcmp hC dL_law_705 ?_
  exact z_if_eq (tgt := 1817) hC dL_law_706 (by decide) (fun _ => hK _ _ hrel) (fun h => absurd (lg_cmp_self r) h)
def ST_wise (Rel Rel2 : e_I → e_L → Prop) : Prop := ∀ (a1 : Int32) (a2 : Int32) (a3 : Int32) (a4 : Int32) (I : e_I) (L : e_L), Rel I L → ∃ (r : Int64) (I1 : e_I) (L1 : e_L) (I2 : e_I) (L2 : e_L), f_X7_wise a1 a2 a3 a4 I L = some (r, I1, L1) ∧ f_X8_wise a1 a2 a3 a4 I1 L1 = some (r, I2, L2) ∧ Rel2 I2 L2
set_option maxRecDepth 100000 in
set_option maxHeartbeats 4000000 in
theorem LC_wise {X : e_X} {Q : State → Prop} {N : Nat} {xs : Nat → Int32} {Rel Rel2 : e_I → e_L → Prop} (hC : e_C X cL_law RL 7 (some .boolean) 40 gN) (hX : e_SC X N xs) {x : Int32} (h1 : vp_in (x + 1) N) {a1 : Int32} (e1 : xs (x + 1).toNatClampNeg = a1) (h2 : vp_in (x + 2) N) {a2 : Int32} (e2 : xs (x + 2).toNatClampNeg = a2) (h3 : vp_in (x + 3) N) {a3 : Int32} (e3 : xs (x + 3).toNatClampNeg = a3) (h4 : vp_in (x + 4) N) {a4 : Int32} (e4 : xs (x + 4).toNatClampNeg = a4) (I : e_I) (L : e_L) (hrel0 : Rel I L) (hS : ST_wise Rel Rel2) (hK : ∀ (I : e_I) (L : e_L), Rel2 I L → Z X Q 1817 [(0, .ref 4000), (1, .ref 0), (2, .ref 83), (3, .ref 97), (4, .int x)] [] I L) : Z X Q 711 [(0, .ref 4000), (1, .ref 0), (2, .ref 83), (3, .ref 97), (4, .int x)] [] I L := by
  obtain ⟨r, I1, L1, I2, L2, q7, q8, hrel⟩ := hS a1 a2 a3 a4 I L hrel0
  refine z_aload_n hC dL_law_711 rfl 1 rfl ?_
  refine z_aload_n hC dL_law_712 rfl 0 rfl ?_
  refine z_iload hC dL_law_713 4 rfl ?_
  refine z_iconst (v := 1) hC (by decide) dL_law_715 ?_
  refine z_iadd hC dL_law_716 ?_
  refine z_sld hC hX h1 dL_law_717 ?_
  rw [e1]
  refine z_aload_n hC dL_law_718 rfl 0 rfl ?_
  refine z_iload hC dL_law_719 4 rfl ?_
  refine z_iconst (v := 2) hC (by decide) dL_law_721 ?_
  refine z_iadd hC dL_law_722 ?_
  refine z_sld hC hX h2 dL_law_723 ?_
  rw [e2]
  refine z_aload_n hC dL_law_724 rfl 0 rfl ?_
  refine z_iload hC dL_law_725 4 rfl ?_
  refine z_iconst (v := 3) hC (by decide) dL_law_727 ?_
  refine z_iadd hC dL_law_728 ?_
  refine z_sld hC hX h3 dL_law_729 ?_
  rw [e3]
  refine z_aload_n hC dL_law_730 rfl 0 rfl ?_
  refine z_iload hC dL_law_731 4 rfl ?_
  refine z_iconst (v := 4) hC (by decide) dL_law_733 ?_
  refine z_iadd hC dL_law_734 ?_
  refine z_sld hC hX h4 dL_law_735 ?_
  rw [e4]
  refine zc_lIL hC [.int a1, .int a2, .int a3, .int a4] [] me_X7_wise mlL_77 im_X7_wise se_X7_wise rfl (by decide) at_0 (ci := 7) (T_X7_wise a1 a2 a3 a4 I L _ q7) (by decide) rfl (Nat.le_of_ble_eq_true rfl) dL_law_736 rfl ?_
  refine z_aload_n hC dL_law_739 rfl 2 rfl ?_
  refine z_aload_n hC dL_law_740 rfl 0 rfl ?_
  refine z_iload hC dL_law_741 4 rfl ?_
  refine z_iconst (v := 1) hC (by decide) dL_law_743 ?_
  refine z_iadd hC dL_law_744 ?_
  refine z_sld hC hX h1 dL_law_745 ?_
  rw [e1]
  refine z_aload_n hC dL_law_746 rfl 0 rfl ?_
  refine z_iload hC dL_law_747 4 rfl ?_
  refine z_iconst (v := 2) hC (by decide) dL_law_749 ?_
  refine z_iadd hC dL_law_750 ?_
  refine z_sld hC hX h2 dL_law_751 ?_
  rw [e2]
  refine z_aload_n hC dL_law_752 rfl 0 rfl ?_
  refine z_iload hC dL_law_753 4 rfl ?_
  refine z_iconst (v := 3) hC (by decide) dL_law_755 ?_
  refine z_iadd hC dL_law_756 ?_
  refine z_sld hC hX h3 dL_law_757 ?_
  rw [e3]
  refine z_aload_n hC dL_law_758 rfl 0 rfl ?_
  refine z_iload hC dL_law_759 4 rfl ?_
  refine z_iconst (v := 4) hC (by decide) dL_law_761 ?_
  refine z_iadd hC dL_law_762 ?_
  refine z_sld hC hX h4 dL_law_763 ?_
  rw [e4]
  refine zc_lIL hC [.int a1, .int a2, .int a3, .int a4] [.long r] me_X8_wise mlL_80 im_X8_wise se_X8_wise rfl (by decide) at_83 (ci := 8) (T_X8_wise a1 a2 a3 a4 I1 L1 _ q8) (by decide) rfl (Nat.le_of_ble_eq_true rfl) dL_law_764 rfl ?_
  refine z_lcmp hC dL_law_767 ?_
  exact z_if_eq (tgt := 1817) hC dL_law_768 (by decide) (fun _ => hK _ _ hrel) (fun h => absurd (lg_cmp_self r) h)
def ST_choice (Rel Rel2 : e_I → e_L → Prop) : Prop := ∀ (a1 : Int32) (a2 : Int32) (a3 : Int32) (I : e_I) (L : e_L), Rel I L → ∃ (r : Int32) (I1 : e_I) (L1 : e_L) (I2 : e_I) (L2 : e_L), f_X7_choice a1 a2 a3 I L = some (r, I1, L1) ∧ f_X8_choice a1 a2 a3 I1 L1 = some (r, I2, L2) ∧ Rel2 I2 L2
set_option maxRecDepth 100000 in
set_option maxHeartbeats 4000000 in
theorem LC_choice {X : e_X} {Q : State → Prop} {N : Nat} {xs : Nat → Int32} {Rel Rel2 : e_I → e_L → Prop} (hC : e_C X cL_law RL 7 (some .boolean) 40 gN) (hX : e_SC X N xs) {x : Int32} (h1 : vp_in (x + 1) N) {a1 : Int32} (e1 : xs (x + 1).toNatClampNeg = a1) (h2 : vp_in (x + 2) N) {a2 : Int32} (e2 : xs (x + 2).toNatClampNeg = a2) (h3 : vp_in (x + 3) N) {a3 : Int32} (e3 : xs (x + 3).toNatClampNeg = a3) (I : e_I) (L : e_L) (hrel0 : Rel I L) (hS : ST_choice Rel Rel2) (hK : ∀ (I : e_I) (L : e_L), Rel2 I L → Z X Q 1817 [(0, .ref 4000), (1, .ref 0), (2, .ref 83), (3, .ref 97), (4, .int x)] [] I L) : Z X Q 773 [(0, .ref 4000), (1, .ref 0), (2, .ref 83), (3, .ref 97), (4, .int x)] [] I L := by
  obtain ⟨r, I1, L1, I2, L2, q7, q8, hrel⟩ := hS a1 a2 a3 I L hrel0
  refine z_aload_n hC dL_law_773 rfl 1 rfl ?_
  refine z_aload_n hC dL_law_774 rfl 0 rfl ?_
  refine z_iload hC dL_law_775 4 rfl ?_
  refine z_iconst (v := 1) hC (by decide) dL_law_777 ?_
  refine z_iadd hC dL_law_778 ?_
  refine z_sld hC hX h1 dL_law_779 ?_
  rw [e1]
  refine z_aload_n hC dL_law_780 rfl 0 rfl ?_
  refine z_iload hC dL_law_781 4 rfl ?_
  refine z_iconst (v := 2) hC (by decide) dL_law_783 ?_
  refine z_iadd hC dL_law_784 ?_
  refine z_sld hC hX h2 dL_law_785 ?_
  rw [e2]
  refine z_aload_n hC dL_law_786 rfl 0 rfl ?_
  refine z_iload hC dL_law_787 4 rfl ?_
  refine z_iconst (v := 3) hC (by decide) dL_law_789 ?_
  refine z_iadd hC dL_law_790 ?_
  refine z_sld hC hX h3 dL_law_791 ?_
  rw [e3]
  refine zc_iIL hC [.int a1, .int a2, .int a3] [] me_X7_choice mlL_81 im_X7_choice se_X7_choice rfl (by decide) at_0 (ci := 7) (T_X7_choice a1 a2 a3 I L _ q7) (by decide) rfl (Nat.le_of_ble_eq_true rfl) dL_law_792 rfl ?_
  refine z_aload_n hC dL_law_795 rfl 2 rfl ?_
  refine z_aload_n hC dL_law_796 rfl 0 rfl ?_
  refine z_iload hC dL_law_797 4 rfl ?_
  refine z_iconst (v := 1) hC (by decide) dL_law_799 ?_
  refine z_iadd hC dL_law_800 ?_
  refine z_sld hC hX h1 dL_law_801 ?_
  rw [e1]
  refine z_aload_n hC dL_law_802 rfl 0 rfl ?_
  refine z_iload hC dL_law_803 4 rfl ?_
  refine z_iconst (v := 2) hC (by decide) dL_law_805 ?_
  refine z_iadd hC dL_law_806 ?_
  refine z_sld hC hX h2 dL_law_807 ?_
  rw [e2]
  refine z_aload_n hC dL_law_808 rfl 0 rfl ?_
  refine z_iload hC dL_law_809 4 rfl ?_
  refine z_iconst (v := 3) hC (by decide) dL_law_811 ?_
  refine z_iadd hC dL_law_812 ?_
  refine z_sld hC hX h3 dL_law_813 ?_
  rw [e3]
  refine zc_iIL hC [.int a1, .int a2, .int a3] [.int r] me_X8_choice mlL_84 im_X8_choice se_X8_choice rfl (by decide) at_83 (ci := 8) (T_X8_choice a1 a2 a3 I1 L1 _ q8) (by decide) rfl (Nat.le_of_ble_eq_true rfl) dL_law_814 rfl ?_
  exact z_icmp_eq (tgt := 1817) hC dL_law_817 (by decide) (fun _ => hK _ _ hrel) (fun h => absurd rfl h)
def ST_chosen (Rel Rel2 : e_I → e_L → Prop) : Prop := ∀ (a1 : Int32) (a2 : Int32) (a3 : Int32) (a4 : Int32) (a5 : Int32) (I : e_I) (L : e_L), Rel I L → ∃ (r : Int64) (I1 : e_I) (L1 : e_L) (I2 : e_I) (L2 : e_L), f_X7_chosen a1 a2 a3 a4 a5 I L = some (r, I1, L1) ∧ f_X8_chosen a1 a2 a3 a4 a5 I1 L1 = some (r, I2, L2) ∧ Rel2 I2 L2
set_option maxRecDepth 100000 in
set_option maxHeartbeats 4000000 in
theorem LC_chosen {X : e_X} {Q : State → Prop} {N : Nat} {xs : Nat → Int32} {Rel Rel2 : e_I → e_L → Prop} (hC : e_C X cL_law RL 7 (some .boolean) 40 gN) (hX : e_SC X N xs) {x : Int32} (h1 : vp_in (x + 1) N) {a1 : Int32} (e1 : xs (x + 1).toNatClampNeg = a1) (h2 : vp_in (x + 2) N) {a2 : Int32} (e2 : xs (x + 2).toNatClampNeg = a2) (h3 : vp_in (x + 3) N) {a3 : Int32} (e3 : xs (x + 3).toNatClampNeg = a3) (h4 : vp_in (x + 4) N) {a4 : Int32} (e4 : xs (x + 4).toNatClampNeg = a4) (h5 : vp_in (x + 5) N) {a5 : Int32} (e5 : xs (x + 5).toNatClampNeg = a5) (I : e_I) (L : e_L) (hrel0 : Rel I L) (hS : ST_chosen Rel Rel2) (hK : ∀ (I : e_I) (L : e_L), Rel2 I L → Z X Q 1817 [(0, .ref 4000), (1, .ref 0), (2, .ref 83), (3, .ref 97), (4, .int x)] [] I L) : Z X Q 822 [(0, .ref 4000), (1, .ref 0), (2, .ref 83), (3, .ref 97), (4, .int x)] [] I L := by
  obtain ⟨r, I1, L1, I2, L2, q7, q8, hrel⟩ := hS a1 a2 a3 a4 a5 I L hrel0
  refine z_aload_n hC dL_law_822 rfl 1 rfl ?_
  refine z_aload_n hC dL_law_823 rfl 0 rfl ?_
  refine z_iload hC dL_law_824 4 rfl ?_
  refine z_iconst (v := 1) hC (by decide) dL_law_826 ?_
  refine z_iadd hC dL_law_827 ?_
  refine z_sld hC hX h1 dL_law_828 ?_
  rw [e1]
  refine z_aload_n hC dL_law_829 rfl 0 rfl ?_
  refine z_iload hC dL_law_830 4 rfl ?_
  refine z_iconst (v := 2) hC (by decide) dL_law_832 ?_
  refine z_iadd hC dL_law_833 ?_
  refine z_sld hC hX h2 dL_law_834 ?_
  rw [e2]
  refine z_aload_n hC dL_law_835 rfl 0 rfl ?_
  refine z_iload hC dL_law_836 4 rfl ?_
  refine z_iconst (v := 3) hC (by decide) dL_law_838 ?_
  refine z_iadd hC dL_law_839 ?_
  refine z_sld hC hX h3 dL_law_840 ?_
  rw [e3]
  refine z_aload_n hC dL_law_841 rfl 0 rfl ?_
  refine z_iload hC dL_law_842 4 rfl ?_
  refine z_iconst (v := 4) hC (by decide) dL_law_844 ?_
  refine z_iadd hC dL_law_845 ?_
  refine z_sld hC hX h4 dL_law_846 ?_
  rw [e4]
  refine z_aload_n hC dL_law_847 rfl 0 rfl ?_
  refine z_iload hC dL_law_848 4 rfl ?_
  refine z_iconst (v := 5) hC (by decide) dL_law_850 ?_
  refine z_iadd hC dL_law_851 ?_
  refine z_sld hC hX h5 dL_law_852 ?_
  rw [e5]
  refine zc_lIL hC [.int a1, .int a2, .int a3, .int a4, .int a5] [] me_X7_chosen mlL_85 im_X7_chosen se_X7_chosen rfl (by decide) at_0 (ci := 7) (T_X7_chosen a1 a2 a3 a4 a5 I L _ q7) (by decide) rfl (Nat.le_of_ble_eq_true rfl) dL_law_853 rfl ?_
  refine z_aload_n hC dL_law_856 rfl 2 rfl ?_
  refine z_aload_n hC dL_law_857 rfl 0 rfl ?_
  refine z_iload hC dL_law_858 4 rfl ?_
  refine z_iconst (v := 1) hC (by decide) dL_law_860 ?_
  refine z_iadd hC dL_law_861 ?_
  refine z_sld hC hX h1 dL_law_862 ?_
  rw [e1]
  refine z_aload_n hC dL_law_863 rfl 0 rfl ?_
  refine z_iload hC dL_law_864 4 rfl ?_
  refine z_iconst (v := 2) hC (by decide) dL_law_866 ?_
  refine z_iadd hC dL_law_867 ?_
  refine z_sld hC hX h2 dL_law_868 ?_
  rw [e2]
  refine z_aload_n hC dL_law_869 rfl 0 rfl ?_
  refine z_iload hC dL_law_870 4 rfl ?_
  refine z_iconst (v := 3) hC (by decide) dL_law_872 ?_
  refine z_iadd hC dL_law_873 ?_
  refine z_sld hC hX h3 dL_law_874 ?_
  rw [e3]
  refine z_aload_n hC dL_law_875 rfl 0 rfl ?_
  refine z_iload hC dL_law_876 4 rfl ?_
  refine z_iconst (v := 4) hC (by decide) dL_law_878 ?_
  refine z_iadd hC dL_law_879 ?_
  refine z_sld hC hX h4 dL_law_880 ?_
  rw [e4]
  refine z_aload_n hC dL_law_881 rfl 0 rfl ?_
  refine z_iload hC dL_law_882 4 rfl ?_
  refine z_iconst (v := 5) hC (by decide) dL_law_884 ?_
  refine z_iadd hC dL_law_885 ?_
  refine z_sld hC hX h5 dL_law_886 ?_
  rw [e5]
  refine zc_lIL hC [.int a1, .int a2, .int a3, .int a4, .int a5] [.long r] me_X8_chosen mlL_89 im_X8_chosen se_X8_chosen rfl (by decide) at_83 (ci := 8) (T_X8_chosen a1 a2 a3 a4 a5 I1 L1 _ q8) (by decide) rfl (Nat.le_of_ble_eq_true rfl) dL_law_887 rfl ?_
  refine z_lcmp hC dL_law_890 ?_
  exact z_if_eq (tgt := 1817) hC dL_law_891 (by decide) (fun _ => hK _ _ hrel) (fun h => absurd (lg_cmp_self r) h)
def ST_breaksEven (Rel Rel2 : e_I → e_L → Prop) : Prop := ∀ (a1 : Int32) (a2 : Int32) (a3 : Int32) (I : e_I) (L : e_L), Rel I L → ∃ (r : Int32) (I1 : e_I) (L1 : e_L) (I2 : e_I) (L2 : e_L), f_X7_breaksEven a1 a2 a3 I L = some (r, I1, L1) ∧ f_X8_breaksEven a1 a2 a3 I1 L1 = some (r, I2, L2) ∧ Rel2 I2 L2
set_option maxRecDepth 100000 in
set_option maxHeartbeats 4000000 in
theorem LC_breaksEven {X : e_X} {Q : State → Prop} {N : Nat} {xs : Nat → Int32} {Rel Rel2 : e_I → e_L → Prop} (hC : e_C X cL_law RL 7 (some .boolean) 40 gN) (hX : e_SC X N xs) {x : Int32} (h1 : vp_in (x + 1) N) {a1 : Int32} (e1 : xs (x + 1).toNatClampNeg = a1) (h2 : vp_in (x + 2) N) {a2 : Int32} (e2 : xs (x + 2).toNatClampNeg = a2) (h3 : vp_in (x + 3) N) {a3 : Int32} (e3 : xs (x + 3).toNatClampNeg = a3) (I : e_I) (L : e_L) (hrel0 : Rel I L) (hS : ST_breaksEven Rel Rel2) (hK : ∀ (I : e_I) (L : e_L), Rel2 I L → Z X Q 1817 [(0, .ref 4000), (1, .ref 0), (2, .ref 83), (3, .ref 97), (4, .int x)] [] I L) : Z X Q 896 [(0, .ref 4000), (1, .ref 0), (2, .ref 83), (3, .ref 97), (4, .int x)] [] I L := by
  obtain ⟨r, I1, L1, I2, L2, q7, q8, hrel⟩ := hS a1 a2 a3 I L hrel0
  refine z_aload_n hC dL_law_896 rfl 1 rfl ?_
  refine z_aload_n hC dL_law_897 rfl 0 rfl ?_
  refine z_iload hC dL_law_898 4 rfl ?_
  refine z_iconst (v := 1) hC (by decide) dL_law_900 ?_
  refine z_iadd hC dL_law_901 ?_
  refine z_sld hC hX h1 dL_law_902 ?_
  rw [e1]
  refine z_aload_n hC dL_law_903 rfl 0 rfl ?_
  refine z_iload hC dL_law_904 4 rfl ?_
  refine z_iconst (v := 2) hC (by decide) dL_law_906 ?_
  refine z_iadd hC dL_law_907 ?_
  refine z_sld hC hX h2 dL_law_908 ?_
  rw [e2]
  refine z_aload_n hC dL_law_909 rfl 0 rfl ?_
  refine z_iload hC dL_law_910 4 rfl ?_
  refine z_iconst (v := 3) hC (by decide) dL_law_912 ?_
  refine z_iadd hC dL_law_913 ?_
  refine z_sld hC hX h3 dL_law_914 ?_
  rw [e3]
  refine zc_iIL hC [.int a1, .int a2, .int a3] [] me_X7_breaksEven mlL_90 im_X7_breaksEven se_X7_breaksEven rfl (by decide) at_0 (ci := 7) (T_X7_breaksEven a1 a2 a3 I L _ q7) (by decide) rfl (Nat.le_of_ble_eq_true rfl) dL_law_915 rfl ?_
  refine z_aload_n hC dL_law_918 rfl 2 rfl ?_
  refine z_aload_n hC dL_law_919 rfl 0 rfl ?_
  refine z_iload hC dL_law_920 4 rfl ?_
  refine z_iconst (v := 1) hC (by decide) dL_law_922 ?_
  refine z_iadd hC dL_law_923 ?_
  refine z_sld hC hX h1 dL_law_924 ?_
  rw [e1]
  refine z_aload_n hC dL_law_925 rfl 0 rfl ?_
  refine z_iload hC dL_law_926 4 rfl ?_
  refine z_iconst (v := 2) hC (by decide) dL_law_928 ?_
  refine z_iadd hC dL_law_929 ?_
  refine z_sld hC hX h2 dL_law_930 ?_
  rw [e2]
  refine z_aload_n hC dL_law_931 rfl 0 rfl ?_
  refine z_iload hC dL_law_932 4 rfl ?_
  refine z_iconst (v := 3) hC (by decide) dL_law_934 ?_
  refine z_iadd hC dL_law_935 ?_
  refine z_sld hC hX h3 dL_law_936 ?_
  rw [e3]
  refine zc_iIL hC [.int a1, .int a2, .int a3] [.int r] me_X8_breaksEven mlL_93 im_X8_breaksEven se_X8_breaksEven rfl (by decide) at_83 (ci := 8) (T_X8_breaksEven a1 a2 a3 I1 L1 _ q8) (by decide) rfl (Nat.le_of_ble_eq_true rfl) dL_law_937 rfl ?_
  exact z_icmp_eq (tgt := 1817) hC dL_law_940 (by decide) (fun _ => hK _ _ hrel) (fun h => absurd rfl h)
def ST_table (Rel Rel2 : e_I → e_L → Prop) : Prop := ∀ (a1 : Int32) (a2 : Int32) (a3 : Int32) (a4 : Int32) (I : e_I) (L : e_L), Rel I L → ∃ (r : Int64) (I1 : e_I) (L1 : e_L) (I2 : e_I) (L2 : e_L), f_X7_table a1 a2 a3 a4 I L = some (r, I1, L1) ∧ f_X8_table a1 a2 a3 a4 I1 L1 = some (r, I2, L2) ∧ Rel2 I2 L2
set_option maxRecDepth 100000 in
set_option maxHeartbeats 4000000 in
theorem LC_table {X : e_X} {Q : State → Prop} {N : Nat} {xs : Nat → Int32} {Rel Rel2 : e_I → e_L → Prop} (hC : e_C X cL_law RL 7 (some .boolean) 40 gN) (hX : e_SC X N xs) {x : Int32} (h1 : vp_in (x + 1) N) {a1 : Int32} (e1 : xs (x + 1).toNatClampNeg = a1) (h2 : vp_in (x + 2) N) {a2 : Int32} (e2 : xs (x + 2).toNatClampNeg = a2) (h3 : vp_in (x + 3) N) {a3 : Int32} (e3 : xs (x + 3).toNatClampNeg = a3) (h4 : vp_in (x + 4) N) {a4 : Int32} (e4 : xs (x + 4).toNatClampNeg = a4) (I : e_I) (L : e_L) (hrel0 : Rel I L) (hS : ST_table Rel Rel2) (hK : ∀ (I : e_I) (L : e_L), Rel2 I L → Z X Q 1817 [(0, .ref 4000), (1, .ref 0), (2, .ref 83), (3, .ref 97), (4, .int x)] [] I L) : Z X Q 945 [(0, .ref 4000), (1, .ref 0), (2, .ref 83), (3, .ref 97), (4, .int x)] [] I L := by
  obtain ⟨r, I1, L1, I2, L2, q7, q8, hrel⟩ := hS a1 a2 a3 a4 I L hrel0
  refine z_aload_n hC dL_law_945 rfl 1 rfl ?_
  refine z_aload_n hC dL_law_946 rfl 0 rfl ?_
  refine z_iload hC dL_law_947 4 rfl ?_
  refine z_iconst (v := 1) hC (by decide) dL_law_949 ?_
  refine z_iadd hC dL_law_950 ?_
  refine z_sld hC hX h1 dL_law_951 ?_
  rw [e1]
  refine z_aload_n hC dL_law_952 rfl 0 rfl ?_
  refine z_iload hC dL_law_953 4 rfl ?_
  refine z_iconst (v := 2) hC (by decide) dL_law_955 ?_
  refine z_iadd hC dL_law_956 ?_
  refine z_sld hC hX h2 dL_law_957 ?_
  rw [e2]
  refine z_aload_n hC dL_law_958 rfl 0 rfl ?_
  refine z_iload hC dL_law_959 4 rfl ?_
  refine z_iconst (v := 3) hC (by decide) dL_law_961 ?_
  refine z_iadd hC dL_law_962 ?_
  refine z_sld hC hX h3 dL_law_963 ?_
  rw [e3]
  refine z_aload_n hC dL_law_964 rfl 0 rfl ?_
  refine z_iload hC dL_law_965 4 rfl ?_
  refine z_iconst (v := 4) hC (by decide) dL_law_967 ?_
  refine z_iadd hC dL_law_968 ?_
  refine z_sld hC hX h4 dL_law_969 ?_
  rw [e4]
  refine zc_lIL hC [.int a1, .int a2, .int a3, .int a4] [] me_X7_table mlL_94 im_X7_table se_X7_table rfl (by decide) at_0 (ci := 7) (T_X7_table a1 a2 a3 a4 I L _ q7) (by decide) rfl (Nat.le_of_ble_eq_true rfl) dL_law_970 rfl ?_
  refine z_aload_n hC dL_law_973 rfl 2 rfl ?_
  refine z_aload_n hC dL_law_974 rfl 0 rfl ?_
  refine z_iload hC dL_law_975 4 rfl ?_
  refine z_iconst (v := 1) hC (by decide) dL_law_977 ?_
  refine z_iadd hC dL_law_978 ?_
  refine z_sld hC hX h1 dL_law_979 ?_
  rw [e1]
  refine z_aload_n hC dL_law_980 rfl 0 rfl ?_
  refine z_iload hC dL_law_981 4 rfl ?_
  refine z_iconst (v := 2) hC (by decide) dL_law_983 ?_
  refine z_iadd hC dL_law_984 ?_
  refine z_sld hC hX h2 dL_law_985 ?_
  rw [e2]
  refine z_aload_n hC dL_law_986 rfl 0 rfl ?_
  refine z_iload hC dL_law_987 4 rfl ?_
  refine z_iconst (v := 3) hC (by decide) dL_law_989 ?_
  refine z_iadd hC dL_law_990 ?_
  refine z_sld hC hX h3 dL_law_991 ?_
  rw [e3]
  refine z_aload_n hC dL_law_992 rfl 0 rfl ?_
  refine z_iload hC dL_law_993 4 rfl ?_
  refine z_iconst (v := 4) hC (by decide) dL_law_995 ?_
  refine z_iadd hC dL_law_996 ?_
  refine z_sld hC hX h4 dL_law_997 ?_
  rw [e4]
  refine zc_lIL hC [.int a1, .int a2, .int a3, .int a4] [.long r] me_X8_table mlL_97 im_X8_table se_X8_table rfl (by decide) at_83 (ci := 8) (T_X8_table a1 a2 a3 a4 I1 L1 _ q8) (by decide) rfl (Nat.le_of_ble_eq_true rfl) dL_law_998 rfl ?_
  refine z_lcmp hC dL_law_1001 ?_
  exact z_if_eq (tgt := 1817) hC dL_law_1002 (by decide) (fun _ => hK _ _ hrel) (fun h => absurd (lg_cmp_self r) h)
def ST_worth (Rel Rel2 : e_I → e_L → Prop) : Prop := ∀ (a1 : Int32) (a2 : Int32) (I : e_I) (L : e_L), Rel I L → ∃ (r : Int64) (I1 : e_I) (L1 : e_L) (I2 : e_I) (L2 : e_L), f_X7_worth a1 a2 I L = some (r, I1, L1) ∧ f_X8_worth a1 a2 I1 L1 = some (r, I2, L2) ∧ Rel2 I2 L2
set_option maxRecDepth 100000 in
set_option maxHeartbeats 4000000 in
theorem LC_worth {X : e_X} {Q : State → Prop} {N : Nat} {xs : Nat → Int32} {Rel Rel2 : e_I → e_L → Prop} (hC : e_C X cL_law RL 7 (some .boolean) 40 gN) (hX : e_SC X N xs) {x : Int32} (h1 : vp_in (x + 1) N) {a1 : Int32} (e1 : xs (x + 1).toNatClampNeg = a1) (h2 : vp_in (x + 2) N) {a2 : Int32} (e2 : xs (x + 2).toNatClampNeg = a2) (I : e_I) (L : e_L) (hrel0 : Rel I L) (hS : ST_worth Rel Rel2) (hK : ∀ (I : e_I) (L : e_L), Rel2 I L → Z X Q 1817 [(0, .ref 4000), (1, .ref 0), (2, .ref 83), (3, .ref 97), (4, .int x)] [] I L) : Z X Q 1007 [(0, .ref 4000), (1, .ref 0), (2, .ref 83), (3, .ref 97), (4, .int x)] [] I L := by
  obtain ⟨r, I1, L1, I2, L2, q7, q8, hrel⟩ := hS a1 a2 I L hrel0
  refine z_aload_n hC dL_law_1007 rfl 1 rfl ?_
  refine z_aload_n hC dL_law_1008 rfl 0 rfl ?_
  refine z_iload hC dL_law_1009 4 rfl ?_
  refine z_iconst (v := 1) hC (by decide) dL_law_1011 ?_
  refine z_iadd hC dL_law_1012 ?_
  refine z_sld hC hX h1 dL_law_1013 ?_
  rw [e1]
  refine z_aload_n hC dL_law_1014 rfl 0 rfl ?_
  refine z_iload hC dL_law_1015 4 rfl ?_
  refine z_iconst (v := 2) hC (by decide) dL_law_1017 ?_
  refine z_iadd hC dL_law_1018 ?_
  refine z_sld hC hX h2 dL_law_1019 ?_
  rw [e2]
  refine zc_lIL hC [.int a1, .int a2] [] me_X7_worth mlL_98 im_X7_worth se_X7_worth rfl (by decide) at_0 (ci := 7) (T_X7_worth a1 a2 I L _ q7) (by decide) rfl (Nat.le_of_ble_eq_true rfl) dL_law_1020 rfl ?_
  refine z_aload_n hC dL_law_1023 rfl 2 rfl ?_
  refine z_aload_n hC dL_law_1024 rfl 0 rfl ?_
  refine z_iload hC dL_law_1025 4 rfl ?_
  refine z_iconst (v := 1) hC (by decide) dL_law_1027 ?_
  refine z_iadd hC dL_law_1028 ?_
  refine z_sld hC hX h1 dL_law_1029 ?_
  rw [e1]
  refine z_aload_n hC dL_law_1030 rfl 0 rfl ?_
  refine z_iload hC dL_law_1031 4 rfl ?_
  refine z_iconst (v := 2) hC (by decide) dL_law_1033 ?_
  refine z_iadd hC dL_law_1034 ?_
  refine z_sld hC hX h2 dL_law_1035 ?_
  rw [e2]
  refine zc_lIL hC [.int a1, .int a2] [.long r] me_X8_worth mlL_102 im_X8_worth se_X8_worth rfl (by decide) at_83 (ci := 8) (T_X8_worth a1 a2 I1 L1 _ q8) (by decide) rfl (Nat.le_of_ble_eq_true rfl) dL_law_1036 rfl ?_
  refine z_lcmp hC dL_law_1039 ?_
  exact z_if_eq (tgt := 1817) hC dL_law_1040 (by decide) (fun _ => hK _ _ hrel) (fun h => absurd (lg_cmp_self r) h)
def ST_best (Rel Rel2 : e_I → e_L → Prop) : Prop := ∀ (a1 : Int32) (a2 : Int32) (I : e_I) (L : e_L), Rel I L → ∃ (r : Int64) (I1 : e_I) (L1 : e_L) (I2 : e_I) (L2 : e_L), f_X7_best a1 a2 I L = some (r, I1, L1) ∧ f_X8_best a1 a2 I1 L1 = some (r, I2, L2) ∧ Rel2 I2 L2
set_option maxRecDepth 100000 in
set_option maxHeartbeats 4000000 in
theorem LC_best {X : e_X} {Q : State → Prop} {N : Nat} {xs : Nat → Int32} {Rel Rel2 : e_I → e_L → Prop} (hC : e_C X cL_law RL 7 (some .boolean) 40 gN) (hX : e_SC X N xs) {x : Int32} (h1 : vp_in (x + 1) N) {a1 : Int32} (e1 : xs (x + 1).toNatClampNeg = a1) (h2 : vp_in (x + 2) N) {a2 : Int32} (e2 : xs (x + 2).toNatClampNeg = a2) (I : e_I) (L : e_L) (hrel0 : Rel I L) (hS : ST_best Rel Rel2) (hK : ∀ (I : e_I) (L : e_L), Rel2 I L → Z X Q 1817 [(0, .ref 4000), (1, .ref 0), (2, .ref 83), (3, .ref 97), (4, .int x)] [] I L) : Z X Q 1045 [(0, .ref 4000), (1, .ref 0), (2, .ref 83), (3, .ref 97), (4, .int x)] [] I L := by
  obtain ⟨r, I1, L1, I2, L2, q7, q8, hrel⟩ := hS a1 a2 I L hrel0
  refine z_aload_n hC dL_law_1045 rfl 1 rfl ?_
  refine z_aload_n hC dL_law_1046 rfl 0 rfl ?_
  refine z_iload hC dL_law_1047 4 rfl ?_
  refine z_iconst (v := 1) hC (by decide) dL_law_1049 ?_
  refine z_iadd hC dL_law_1050 ?_
  refine z_sld hC hX h1 dL_law_1051 ?_
  rw [e1]
  refine z_aload_n hC dL_law_1052 rfl 0 rfl ?_
  refine z_iload hC dL_law_1053 4 rfl ?_
  refine z_iconst (v := 2) hC (by decide) dL_law_1055 ?_
  refine z_iadd hC dL_law_1056 ?_
  refine z_sld hC hX h2 dL_law_1057 ?_
  rw [e2]
  refine zc_lIL hC [.int a1, .int a2] [] me_X7_best mlL_103 im_X7_best se_X7_best rfl (by decide) at_0 (ci := 7) (T_X7_best a1 a2 I L _ q7) (by decide) rfl (Nat.le_of_ble_eq_true rfl) dL_law_1058 rfl ?_
  refine z_aload_n hC dL_law_1061 rfl 2 rfl ?_
  refine z_aload_n hC dL_law_1062 rfl 0 rfl ?_
  refine z_iload hC dL_law_1063 4 rfl ?_
  refine z_iconst (v := 1) hC (by decide) dL_law_1065 ?_
  refine z_iadd hC dL_law_1066 ?_
  refine z_sld hC hX h1 dL_law_1067 ?_
  rw [e1]
  refine z_aload_n hC dL_law_1068 rfl 0 rfl ?_
  refine z_iload hC dL_law_1069 4 rfl ?_
  refine z_iconst (v := 2) hC (by decide) dL_law_1071 ?_
  refine z_iadd hC dL_law_1072 ?_
  refine z_sld hC hX h2 dL_law_1073 ?_
  rw [e2]
  refine zc_lIL hC [.int a1, .int a2] [.long r] me_X8_best mlL_106 im_X8_best se_X8_best rfl (by decide) at_83 (ci := 8) (T_X8_best a1 a2 I1 L1 _ q8) (by decide) rfl (Nat.le_of_ble_eq_true rfl) dL_law_1074 rfl ?_
  refine z_lcmp hC dL_law_1077 ?_
  exact z_if_eq (tgt := 1817) hC dL_law_1078 (by decide) (fun _ => hK _ _ hrel) (fun h => absurd (lg_cmp_self r) h)
def ST_bestAt (Rel Rel2 : e_I → e_L → Prop) : Prop := ∀ (a1 : Int32) (a2 : Int32) (I : e_I) (L : e_L), Rel I L → ∃ (r : Int32) (I1 : e_I) (L1 : e_L) (I2 : e_I) (L2 : e_L), f_X7_bestAt a1 a2 I L = some (r, I1, L1) ∧ f_X8_bestAt a1 a2 I1 L1 = some (r, I2, L2) ∧ Rel2 I2 L2
set_option maxRecDepth 100000 in
set_option maxHeartbeats 4000000 in
theorem LC_bestAt {X : e_X} {Q : State → Prop} {N : Nat} {xs : Nat → Int32} {Rel Rel2 : e_I → e_L → Prop} (hC : e_C X cL_law RL 7 (some .boolean) 40 gN) (hX : e_SC X N xs) {x : Int32} (h1 : vp_in (x + 1) N) {a1 : Int32} (e1 : xs (x + 1).toNatClampNeg = a1) (h2 : vp_in (x + 2) N) {a2 : Int32} (e2 : xs (x + 2).toNatClampNeg = a2) (I : e_I) (L : e_L) (hrel0 : Rel I L) (hS : ST_bestAt Rel Rel2) (hK : ∀ (I : e_I) (L : e_L), Rel2 I L → Z X Q 1817 [(0, .ref 4000), (1, .ref 0), (2, .ref 83), (3, .ref 97), (4, .int x)] [] I L) : Z X Q 1083 [(0, .ref 4000), (1, .ref 0), (2, .ref 83), (3, .ref 97), (4, .int x)] [] I L := by
  obtain ⟨r, I1, L1, I2, L2, q7, q8, hrel⟩ := hS a1 a2 I L hrel0
  refine z_aload_n hC dL_law_1083 rfl 1 rfl ?_
  refine z_aload_n hC dL_law_1084 rfl 0 rfl ?_
  refine z_iload hC dL_law_1085 4 rfl ?_
  refine z_iconst (v := 1) hC (by decide) dL_law_1087 ?_
  refine z_iadd hC dL_law_1088 ?_
  refine z_sld hC hX h1 dL_law_1089 ?_
  rw [e1]
  refine z_aload_n hC dL_law_1090 rfl 0 rfl ?_
  refine z_iload hC dL_law_1091 4 rfl ?_
  refine z_iconst (v := 2) hC (by decide) dL_law_1093 ?_
  refine z_iadd hC dL_law_1094 ?_
  refine z_sld hC hX h2 dL_law_1095 ?_
  rw [e2]
  refine zc_iIL hC [.int a1, .int a2] [] me_X7_bestAt mlL_107 im_X7_bestAt se_X7_bestAt rfl (by decide) at_0 (ci := 7) (T_X7_bestAt a1 a2 I L _ q7) (by decide) rfl (Nat.le_of_ble_eq_true rfl) dL_law_1096 rfl ?_
  refine z_aload_n hC dL_law_1099 rfl 2 rfl ?_
  refine z_aload_n hC dL_law_1100 rfl 0 rfl ?_
  refine z_iload hC dL_law_1101 4 rfl ?_
  refine z_iconst (v := 1) hC (by decide) dL_law_1103 ?_
  refine z_iadd hC dL_law_1104 ?_
  refine z_sld hC hX h1 dL_law_1105 ?_
  rw [e1]
  refine z_aload_n hC dL_law_1106 rfl 0 rfl ?_
  refine z_iload hC dL_law_1107 4 rfl ?_
  refine z_iconst (v := 2) hC (by decide) dL_law_1109 ?_
  refine z_iadd hC dL_law_1110 ?_
  refine z_sld hC hX h2 dL_law_1111 ?_
  rw [e2]
  refine zc_iIL hC [.int a1, .int a2] [.int r] me_X8_bestAt mlL_110 im_X8_bestAt se_X8_bestAt rfl (by decide) at_83 (ci := 8) (T_X8_bestAt a1 a2 I1 L1 _ q8) (by decide) rfl (Nat.le_of_ble_eq_true rfl) dL_law_1112 rfl ?_
  exact z_icmp_eq (tgt := 1817) hC dL_law_1115 (by decide) (fun _ => hK _ _ hrel) (fun h => absurd rfl h)
def ST_exchanged (Rel Rel2 : e_I → e_L → Prop) : Prop := ∀ (a1 : Int32) (a2 : Int32) (a3 : Int32) (I : e_I) (L : e_L), Rel I L → ∃ (r : Int32) (I1 : e_I) (L1 : e_L) (I2 : e_I) (L2 : e_L), f_X7_exchanged a1 a2 a3 I L = some (r, I1, L1) ∧ f_X8_exchanged a1 a2 a3 I1 L1 = some (r, I2, L2) ∧ Rel2 I2 L2
set_option maxRecDepth 100000 in
set_option maxHeartbeats 4000000 in
theorem LC_exchanged {X : e_X} {Q : State → Prop} {N : Nat} {xs : Nat → Int32} {Rel Rel2 : e_I → e_L → Prop} (hC : e_C X cL_law RL 7 (some .boolean) 40 gN) (hX : e_SC X N xs) {x : Int32} (h1 : vp_in (x + 1) N) {a1 : Int32} (e1 : xs (x + 1).toNatClampNeg = a1) (h2 : vp_in (x + 2) N) {a2 : Int32} (e2 : xs (x + 2).toNatClampNeg = a2) (h3 : vp_in (x + 3) N) {a3 : Int32} (e3 : xs (x + 3).toNatClampNeg = a3) (I : e_I) (L : e_L) (hrel0 : Rel I L) (hS : ST_exchanged Rel Rel2) (hK : ∀ (I : e_I) (L : e_L), Rel2 I L → Z X Q 1817 [(0, .ref 4000), (1, .ref 0), (2, .ref 83), (3, .ref 97), (4, .int x)] [] I L) : Z X Q 1120 [(0, .ref 4000), (1, .ref 0), (2, .ref 83), (3, .ref 97), (4, .int x)] [] I L := by
  obtain ⟨r, I1, L1, I2, L2, q7, q8, hrel⟩ := hS a1 a2 a3 I L hrel0
  refine z_aload_n hC dL_law_1120 rfl 1 rfl ?_
  refine z_aload_n hC dL_law_1121 rfl 0 rfl ?_
  refine z_iload hC dL_law_1122 4 rfl ?_
  refine z_iconst (v := 1) hC (by decide) dL_law_1124 ?_
  refine z_iadd hC dL_law_1125 ?_
  refine z_sld hC hX h1 dL_law_1126 ?_
  rw [e1]
  refine z_aload_n hC dL_law_1127 rfl 0 rfl ?_
  refine z_iload hC dL_law_1128 4 rfl ?_
  refine z_iconst (v := 2) hC (by decide) dL_law_1130 ?_
  refine z_iadd hC dL_law_1131 ?_
  refine z_sld hC hX h2 dL_law_1132 ?_
  rw [e2]
  refine z_aload_n hC dL_law_1133 rfl 0 rfl ?_
  refine z_iload hC dL_law_1134 4 rfl ?_
  refine z_iconst (v := 3) hC (by decide) dL_law_1136 ?_
  refine z_iadd hC dL_law_1137 ?_
  refine z_sld hC hX h3 dL_law_1138 ?_
  rw [e3]
  refine zc_iIL hC [.int a1, .int a2, .int a3] [] me_X7_exchanged mlL_111 im_X7_exchanged se_X7_exchanged rfl (by decide) at_0 (ci := 7) (T_X7_exchanged a1 a2 a3 I L _ q7) (by decide) rfl (Nat.le_of_ble_eq_true rfl) dL_law_1139 rfl ?_
  refine z_aload_n hC dL_law_1142 rfl 2 rfl ?_
  refine z_aload_n hC dL_law_1143 rfl 0 rfl ?_
  refine z_iload hC dL_law_1144 4 rfl ?_
  refine z_iconst (v := 1) hC (by decide) dL_law_1146 ?_
  refine z_iadd hC dL_law_1147 ?_
  refine z_sld hC hX h1 dL_law_1148 ?_
  rw [e1]
  refine z_aload_n hC dL_law_1149 rfl 0 rfl ?_
  refine z_iload hC dL_law_1150 4 rfl ?_
  refine z_iconst (v := 2) hC (by decide) dL_law_1152 ?_
  refine z_iadd hC dL_law_1153 ?_
  refine z_sld hC hX h2 dL_law_1154 ?_
  rw [e2]
  refine z_aload_n hC dL_law_1155 rfl 0 rfl ?_
  refine z_iload hC dL_law_1156 4 rfl ?_
  refine z_iconst (v := 3) hC (by decide) dL_law_1158 ?_
  refine z_iadd hC dL_law_1159 ?_
  refine z_sld hC hX h3 dL_law_1160 ?_
  rw [e3]
  refine zc_iIL hC [.int a1, .int a2, .int a3] [.int r] me_X8_exchanged mlL_114 im_X8_exchanged se_X8_exchanged rfl (by decide) at_83 (ci := 8) (T_X8_exchanged a1 a2 a3 I1 L1 _ q8) (by decide) rfl (Nat.le_of_ble_eq_true rfl) dL_law_1161 rfl ?_
  exact z_icmp_eq (tgt := 1817) hC dL_law_1164 (by decide) (fun _ => hK _ _ hrel) (fun h => absurd rfl h)
def ST_log (Rel Rel2 : e_I → e_L → Prop) : Prop := ∀ (a1 : Int32) (a2 : Int32) (I : e_I) (L : e_L), Rel I L → ∃ (r : Int32) (I1 : e_I) (I2 : e_I), f_X7_log a1 a2 I = some (r, I1) ∧ f_X8_log a1 a2 I1 = some (r, I2) ∧ Rel2 I2 L
set_option maxRecDepth 100000 in
set_option maxHeartbeats 4000000 in
theorem LC_log {X : e_X} {Q : State → Prop} {N : Nat} {xs : Nat → Int32} {Rel Rel2 : e_I → e_L → Prop} (hC : e_C X cL_law RL 7 (some .boolean) 40 gN) (hX : e_SC X N xs) {x : Int32} (h1 : vp_in (x + 1) N) {a1 : Int32} (e1 : xs (x + 1).toNatClampNeg = a1) (h2 : vp_in (x + 2) N) {a2 : Int32} (e2 : xs (x + 2).toNatClampNeg = a2) (I : e_I) (L : e_L) (hrel0 : Rel I L) (hS : ST_log Rel Rel2) (hK : ∀ (I : e_I) (L : e_L), Rel2 I L → Z X Q 1817 [(0, .ref 4000), (1, .ref 0), (2, .ref 83), (3, .ref 97), (4, .int x)] [] I L) : Z X Q 1169 [(0, .ref 4000), (1, .ref 0), (2, .ref 83), (3, .ref 97), (4, .int x)] [] I L := by
  obtain ⟨r, I1, I2, q7, q8, hrel⟩ := hS a1 a2 I L hrel0
  refine z_aload_n hC dL_law_1169 rfl 1 rfl ?_
  refine z_aload_n hC dL_law_1170 rfl 0 rfl ?_
  refine z_iload hC dL_law_1171 4 rfl ?_
  refine z_iconst (v := 1) hC (by decide) dL_law_1173 ?_
  refine z_iadd hC dL_law_1174 ?_
  refine z_sld hC hX h1 dL_law_1175 ?_
  rw [e1]
  refine z_aload_n hC dL_law_1176 rfl 0 rfl ?_
  refine z_iload hC dL_law_1177 4 rfl ?_
  refine z_iconst (v := 2) hC (by decide) dL_law_1179 ?_
  refine z_iadd hC dL_law_1180 ?_
  refine z_sld hC hX h2 dL_law_1181 ?_
  rw [e2]
  refine zc_iI hC [.int a1, .int a2] [] me_X7_log mlL_115 im_X7_log se_X7_log rfl (by decide) at_0 (ci := 7) (T_X7_log a1 a2 I L _ q7) (by decide) rfl (Nat.le_of_ble_eq_true rfl) dL_law_1182 rfl ?_
  refine z_aload_n hC dL_law_1185 rfl 2 rfl ?_
  refine z_aload_n hC dL_law_1186 rfl 0 rfl ?_
  refine z_iload hC dL_law_1187 4 rfl ?_
  refine z_iconst (v := 1) hC (by decide) dL_law_1189 ?_
  refine z_iadd hC dL_law_1190 ?_
  refine z_sld hC hX h1 dL_law_1191 ?_
  rw [e1]
  refine z_aload_n hC dL_law_1192 rfl 0 rfl ?_
  refine z_iload hC dL_law_1193 4 rfl ?_
  refine z_iconst (v := 2) hC (by decide) dL_law_1195 ?_
  refine z_iadd hC dL_law_1196 ?_
  refine z_sld hC hX h2 dL_law_1197 ?_
  rw [e2]
  refine zc_iI hC [.int a1, .int a2] [.int r] me_X8_log mlL_118 im_X8_log se_X8_log rfl (by decide) at_83 (ci := 8) (T_X8_log a1 a2 I1 L _ q8) (by decide) rfl (Nat.le_of_ble_eq_true rfl) dL_law_1198 rfl ?_
  exact z_icmp_eq (tgt := 1817) hC dL_law_1201 (by decide) (fun _ => hK _ _ hrel) (fun h => absurd rfl h)
def ST_added (Rel Rel2 : e_I → e_L → Prop) : Prop := ∀ (a1 : Int32) (a2 : Int32) (a3 : Int32) (I : e_I) (L : e_L), Rel I L → ∃ (r : Int64) (I1 : e_I) (L1 : e_L) (I2 : e_I) (L2 : e_L), f_X7_added a1 a2 a3 I L = some (r, I1, L1) ∧ f_X8_added a1 a2 a3 I1 L1 = some (r, I2, L2) ∧ Rel2 I2 L2
set_option maxRecDepth 100000 in
set_option maxHeartbeats 4000000 in
theorem LC_added {X : e_X} {Q : State → Prop} {N : Nat} {xs : Nat → Int32} {Rel Rel2 : e_I → e_L → Prop} (hC : e_C X cL_law RL 7 (some .boolean) 40 gN) (hX : e_SC X N xs) {x : Int32} (h1 : vp_in (x + 1) N) {a1 : Int32} (e1 : xs (x + 1).toNatClampNeg = a1) (h2 : vp_in (x + 2) N) {a2 : Int32} (e2 : xs (x + 2).toNatClampNeg = a2) (h3 : vp_in (x + 3) N) {a3 : Int32} (e3 : xs (x + 3).toNatClampNeg = a3) (I : e_I) (L : e_L) (hrel0 : Rel I L) (hS : ST_added Rel Rel2) (hK : ∀ (I : e_I) (L : e_L), Rel2 I L → Z X Q 1817 [(0, .ref 4000), (1, .ref 0), (2, .ref 83), (3, .ref 97), (4, .int x)] [] I L) : Z X Q 1206 [(0, .ref 4000), (1, .ref 0), (2, .ref 83), (3, .ref 97), (4, .int x)] [] I L := by
  obtain ⟨r, I1, L1, I2, L2, q7, q8, hrel⟩ := hS a1 a2 a3 I L hrel0
  refine z_aload_n hC dL_law_1206 rfl 1 rfl ?_
  refine z_aload_n hC dL_law_1207 rfl 0 rfl ?_
  refine z_iload hC dL_law_1208 4 rfl ?_
  refine z_iconst (v := 1) hC (by decide) dL_law_1210 ?_
  refine z_iadd hC dL_law_1211 ?_
  refine z_sld hC hX h1 dL_law_1212 ?_
  rw [e1]
  refine z_aload_n hC dL_law_1213 rfl 0 rfl ?_
  refine z_iload hC dL_law_1214 4 rfl ?_
  refine z_iconst (v := 2) hC (by decide) dL_law_1216 ?_
  refine z_iadd hC dL_law_1217 ?_
  refine z_sld hC hX h2 dL_law_1218 ?_
  rw [e2]
  refine z_aload_n hC dL_law_1219 rfl 0 rfl ?_
  refine z_iload hC dL_law_1220 4 rfl ?_
  refine z_iconst (v := 3) hC (by decide) dL_law_1222 ?_
  refine z_iadd hC dL_law_1223 ?_
  refine z_sld hC hX h3 dL_law_1224 ?_
  rw [e3]
  refine zc_lIL hC [.int a1, .int a2, .int a3] [] me_X7_added mlL_119 im_X7_added se_X7_added rfl (by decide) at_0 (ci := 7) (T_X7_added a1 a2 a3 I L _ q7) (by decide) rfl (Nat.le_of_ble_eq_true rfl) dL_law_1225 rfl ?_
  refine z_aload_n hC dL_law_1228 rfl 2 rfl ?_
  refine z_aload_n hC dL_law_1229 rfl 0 rfl ?_
  refine z_iload hC dL_law_1230 4 rfl ?_
  refine z_iconst (v := 1) hC (by decide) dL_law_1232 ?_
  refine z_iadd hC dL_law_1233 ?_
  refine z_sld hC hX h1 dL_law_1234 ?_
  rw [e1]
  refine z_aload_n hC dL_law_1235 rfl 0 rfl ?_
  refine z_iload hC dL_law_1236 4 rfl ?_
  refine z_iconst (v := 2) hC (by decide) dL_law_1238 ?_
  refine z_iadd hC dL_law_1239 ?_
  refine z_sld hC hX h2 dL_law_1240 ?_
  rw [e2]
  refine z_aload_n hC dL_law_1241 rfl 0 rfl ?_
  refine z_iload hC dL_law_1242 4 rfl ?_
  refine z_iconst (v := 3) hC (by decide) dL_law_1244 ?_
  refine z_iadd hC dL_law_1245 ?_
  refine z_sld hC hX h3 dL_law_1246 ?_
  rw [e3]
  refine zc_lIL hC [.int a1, .int a2, .int a3] [.long r] me_X8_added mlL_123 im_X8_added se_X8_added rfl (by decide) at_83 (ci := 8) (T_X8_added a1 a2 a3 I1 L1 _ q8) (by decide) rfl (Nat.le_of_ble_eq_true rfl) dL_law_1247 rfl ?_
  refine z_lcmp hC dL_law_1250 ?_
  exact z_if_eq (tgt := 1817) hC dL_law_1251 (by decide) (fun _ => hK _ _ hrel) (fun h => absurd (lg_cmp_self r) h)
def ST_credit (Rel Rel2 : e_I → e_L → Prop) : Prop := ∀ (a1 : Int32) (a2 : Int32) (a3 : Int32) (I : e_I) (L : e_L), Rel I L → ∃ (r : Int64) (I1 : e_I) (L1 : e_L) (I2 : e_I) (L2 : e_L), f_X7_credit a1 a2 a3 I L = some (r, I1, L1) ∧ f_X8_credit a1 a2 a3 I1 L1 = some (r, I2, L2) ∧ Rel2 I2 L2
set_option maxRecDepth 100000 in
set_option maxHeartbeats 4000000 in
theorem LC_credit {X : e_X} {Q : State → Prop} {N : Nat} {xs : Nat → Int32} {Rel Rel2 : e_I → e_L → Prop} (hC : e_C X cL_law RL 7 (some .boolean) 40 gN) (hX : e_SC X N xs) {x : Int32} (h1 : vp_in (x + 1) N) {a1 : Int32} (e1 : xs (x + 1).toNatClampNeg = a1) (h2 : vp_in (x + 2) N) {a2 : Int32} (e2 : xs (x + 2).toNatClampNeg = a2) (h3 : vp_in (x + 3) N) {a3 : Int32} (e3 : xs (x + 3).toNatClampNeg = a3) (I : e_I) (L : e_L) (hrel0 : Rel I L) (hS : ST_credit Rel Rel2) (hK : ∀ (I : e_I) (L : e_L), Rel2 I L → Z X Q 1817 [(0, .ref 4000), (1, .ref 0), (2, .ref 83), (3, .ref 97), (4, .int x)] [] I L) : Z X Q 1256 [(0, .ref 4000), (1, .ref 0), (2, .ref 83), (3, .ref 97), (4, .int x)] [] I L := by
  obtain ⟨r, I1, L1, I2, L2, q7, q8, hrel⟩ := hS a1 a2 a3 I L hrel0
  refine z_aload_n hC dL_law_1256 rfl 1 rfl ?_
  refine z_aload_n hC dL_law_1257 rfl 0 rfl ?_
  refine z_iload hC dL_law_1258 4 rfl ?_
  refine z_iconst (v := 1) hC (by decide) dL_law_1260 ?_
  refine z_iadd hC dL_law_1261 ?_
  refine z_sld hC hX h1 dL_law_1262 ?_
  rw [e1]
  refine z_aload_n hC dL_law_1263 rfl 0 rfl ?_
  refine z_iload hC dL_law_1264 4 rfl ?_
  refine z_iconst (v := 2) hC (by decide) dL_law_1266 ?_
  refine z_iadd hC dL_law_1267 ?_
  refine z_sld hC hX h2 dL_law_1268 ?_
  rw [e2]
  refine z_aload_n hC dL_law_1269 rfl 0 rfl ?_
  refine z_iload hC dL_law_1270 4 rfl ?_
  refine z_iconst (v := 3) hC (by decide) dL_law_1272 ?_
  refine z_iadd hC dL_law_1273 ?_
  refine z_sld hC hX h3 dL_law_1274 ?_
  rw [e3]
  refine zc_lIL hC [.int a1, .int a2, .int a3] [] me_X7_credit mlL_124 im_X7_credit se_X7_credit rfl (by decide) at_0 (ci := 7) (T_X7_credit a1 a2 a3 I L _ q7) (by decide) rfl (Nat.le_of_ble_eq_true rfl) dL_law_1275 rfl ?_
  refine z_aload_n hC dL_law_1278 rfl 2 rfl ?_
  refine z_aload_n hC dL_law_1279 rfl 0 rfl ?_
  refine z_iload hC dL_law_1280 4 rfl ?_
  refine z_iconst (v := 1) hC (by decide) dL_law_1282 ?_
  refine z_iadd hC dL_law_1283 ?_
  refine z_sld hC hX h1 dL_law_1284 ?_
  rw [e1]
  refine z_aload_n hC dL_law_1285 rfl 0 rfl ?_
  refine z_iload hC dL_law_1286 4 rfl ?_
  refine z_iconst (v := 2) hC (by decide) dL_law_1288 ?_
  refine z_iadd hC dL_law_1289 ?_
  refine z_sld hC hX h2 dL_law_1290 ?_
  rw [e2]
  refine z_aload_n hC dL_law_1291 rfl 0 rfl ?_
  refine z_iload hC dL_law_1292 4 rfl ?_
  refine z_iconst (v := 3) hC (by decide) dL_law_1294 ?_
  refine z_iadd hC dL_law_1295 ?_
  refine z_sld hC hX h3 dL_law_1296 ?_
  rw [e3]
  refine zc_lIL hC [.int a1, .int a2, .int a3] [.long r] me_X8_credit mlL_127 im_X8_credit se_X8_credit rfl (by decide) at_83 (ci := 8) (T_X8_credit a1 a2 a3 I1 L1 _ q8) (by decide) rfl (Nat.le_of_ble_eq_true rfl) dL_law_1297 rfl ?_
  refine z_lcmp hC dL_law_1300 ?_
  exact z_if_eq (tgt := 1817) hC dL_law_1301 (by decide) (fun _ => hK _ _ hrel) (fun h => absurd (lg_cmp_self r) h)
def ST_all (Rel Rel2 : e_I → e_L → Prop) : Prop := ∀ (a1 : Int32) (a2 : Int32) (I : e_I) (L : e_L), Rel I L → ∃ (r : Int64) (I1 : e_I) (L1 : e_L) (I2 : e_I) (L2 : e_L), f_X7_all a1 a2 I L = some (r, I1, L1) ∧ f_X8_all a1 a2 I1 L1 = some (r, I2, L2) ∧ Rel2 I2 L2
set_option maxRecDepth 100000 in
set_option maxHeartbeats 4000000 in
theorem LC_all {X : e_X} {Q : State → Prop} {N : Nat} {xs : Nat → Int32} {Rel Rel2 : e_I → e_L → Prop} (hC : e_C X cL_law RL 7 (some .boolean) 40 gN) (hX : e_SC X N xs) {x : Int32} (h1 : vp_in (x + 1) N) {a1 : Int32} (e1 : xs (x + 1).toNatClampNeg = a1) (h2 : vp_in (x + 2) N) {a2 : Int32} (e2 : xs (x + 2).toNatClampNeg = a2) (I : e_I) (L : e_L) (hrel0 : Rel I L) (hS : ST_all Rel Rel2) (hK : ∀ (I : e_I) (L : e_L), Rel2 I L → Z X Q 1817 [(0, .ref 4000), (1, .ref 0), (2, .ref 83), (3, .ref 97), (4, .int x)] [] I L) : Z X Q 1306 [(0, .ref 4000), (1, .ref 0), (2, .ref 83), (3, .ref 97), (4, .int x)] [] I L := by
  obtain ⟨r, I1, L1, I2, L2, q7, q8, hrel⟩ := hS a1 a2 I L hrel0
  refine z_aload_n hC dL_law_1306 rfl 1 rfl ?_
  refine z_aload_n hC dL_law_1307 rfl 0 rfl ?_
  refine z_iload hC dL_law_1308 4 rfl ?_
  refine z_iconst (v := 1) hC (by decide) dL_law_1310 ?_
  refine z_iadd hC dL_law_1311 ?_
  refine z_sld hC hX h1 dL_law_1312 ?_
  rw [e1]
  refine z_aload_n hC dL_law_1313 rfl 0 rfl ?_
  refine z_iload hC dL_law_1314 4 rfl ?_
  refine z_iconst (v := 2) hC (by decide) dL_law_1316 ?_
  refine z_iadd hC dL_law_1317 ?_
  refine z_sld hC hX h2 dL_law_1318 ?_
  rw [e2]
  refine zc_lIL hC [.int a1, .int a2] [] me_X7_all mlL_128 im_X7_all se_X7_all rfl (by decide) at_0 (ci := 7) (T_X7_all a1 a2 I L _ q7) (by decide) rfl (Nat.le_of_ble_eq_true rfl) dL_law_1319 rfl ?_
  refine z_aload_n hC dL_law_1322 rfl 2 rfl ?_
  refine z_aload_n hC dL_law_1323 rfl 0 rfl ?_
  refine z_iload hC dL_law_1324 4 rfl ?_
  refine z_iconst (v := 1) hC (by decide) dL_law_1326 ?_
  refine z_iadd hC dL_law_1327 ?_
  refine z_sld hC hX h1 dL_law_1328 ?_
  rw [e1]
  refine z_aload_n hC dL_law_1329 rfl 0 rfl ?_
  refine z_iload hC dL_law_1330 4 rfl ?_
  refine z_iconst (v := 2) hC (by decide) dL_law_1332 ?_
  refine z_iadd hC dL_law_1333 ?_
  refine z_sld hC hX h2 dL_law_1334 ?_
  rw [e2]
  refine zc_lIL hC [.int a1, .int a2] [.long r] me_X8_all mlL_131 im_X8_all se_X8_all rfl (by decide) at_83 (ci := 8) (T_X8_all a1 a2 I1 L1 _ q8) (by decide) rfl (Nat.le_of_ble_eq_true rfl) dL_law_1335 rfl ?_
  refine z_lcmp hC dL_law_1338 ?_
  exact z_if_eq (tgt := 1817) hC dL_law_1339 (by decide) (fun _ => hK _ _ hrel) (fun h => absurd (lg_cmp_self r) h)
def ST_innings (Rel Rel2 : e_I → e_L → Prop) : Prop := ∀ (a1 : Int32) (a2 : Int32) (a3 : Int32) (a4 : Int32) (ha3 : a3 = 0 ∨ a3 = 1) (I : e_I) (L : e_L), Rel I L → ∃ (r : Int32) (I1 : e_I) (L1 : e_L) (I2 : e_I) (L2 : e_L), f_X7_innings a1 a2 a3 a4 I L = some (r, I1, L1) ∧ f_X8_innings a1 a2 a3 a4 I1 L1 = some (r, I2, L2) ∧ Rel2 I2 L2
set_option maxRecDepth 100000 in
set_option maxHeartbeats 4000000 in
theorem LC_innings {X : e_X} {Q : State → Prop} {N : Nat} {xs : Nat → Int32} {Rel Rel2 : e_I → e_L → Prop} (hC : e_C X cL_law RL 7 (some .boolean) 40 gN) (hX : e_SC X N xs) {x : Int32} (h1 : vp_in (x + 1) N) {a1 : Int32} (e1 : xs (x + 1).toNatClampNeg = a1) (h2 : vp_in (x + 2) N) {a2 : Int32} (e2 : xs (x + 2).toNatClampNeg = a2) (h3 : vp_in (x + 3) N) {a3 : Int32} (e3 : xs (x + 3).toNatClampNeg = a3) (h4 : vp_in (x + 4) N) {a4 : Int32} (e4 : xs (x + 4).toNatClampNeg = a4) (I : e_I) (L : e_L) (hrel0 : Rel I L) (hS : ST_innings Rel Rel2) (hK : ∀ (I : e_I) (L : e_L), Rel2 I L → Z X Q 1817 [(0, .ref 4000), (1, .ref 0), (2, .ref 83), (3, .ref 97), (4, .int x)] [] I L) : Z X Q 1344 [(0, .ref 4000), (1, .ref 0), (2, .ref 83), (3, .ref 97), (4, .int x)] [] I L := by
  by_cases hz : a3 = 0
  · obtain ⟨r, I1, L1, I2, L2, q7, q8, hrel⟩ := hS a1 a2 0 a4 (by decide) I L hrel0
    refine z_aload_n hC dL_law_1344 rfl 1 rfl ?_
    refine z_aload_n hC dL_law_1345 rfl 0 rfl ?_
    refine z_iload hC dL_law_1346 4 rfl ?_
    refine z_iconst (v := 1) hC (by decide) dL_law_1348 ?_
    refine z_iadd hC dL_law_1349 ?_
    refine z_sld hC hX h1 dL_law_1350 ?_
    rw [e1]
    refine z_aload_n hC dL_law_1351 rfl 0 rfl ?_
    refine z_iload hC dL_law_1352 4 rfl ?_
    refine z_iconst (v := 2) hC (by decide) dL_law_1354 ?_
    refine z_iadd hC dL_law_1355 ?_
    refine z_sld hC hX h2 dL_law_1356 ?_
    rw [e2]
    refine z_aload_n hC dL_law_1357 rfl 0 rfl ?_
    refine z_iload hC dL_law_1358 4 rfl ?_
    refine z_iconst (v := 3) hC (by decide) dL_law_1360 ?_
    refine z_iadd hC dL_law_1361 ?_
    refine z_sld hC hX h3 dL_law_1362 ?_
    rw [e3]
    refine z_if_eq (tgt := 1370) hC dL_law_1363 (by decide) (fun _ => ?_) (fun h => absurd hz h)
    refine z_iconst (v := 0) hC (by decide) dL_law_1370 ?_
    refine z_aload_n hC dL_law_1371 rfl 0 rfl ?_
    refine z_iload hC dL_law_1372 4 rfl ?_
    refine z_iconst (v := 4) hC (by decide) dL_law_1374 ?_
    refine z_iadd hC dL_law_1375 ?_
    refine z_sld hC hX h4 dL_law_1376 ?_
    rw [e4]
    refine zc_iIL hC [.int a1, .int a2, .int 0, .int a4] [] me_X7_innings mlL_132 im_X7_innings se_X7_innings rfl (by decide) at_0 (ci := 7) (T_X7_innings a1 a2 0 a4 I L _ q7) (by decide) rfl (Nat.le_of_ble_eq_true rfl) dL_law_1377 rfl ?_
    refine z_aload_n hC dL_law_1380 rfl 2 rfl ?_
    refine z_aload_n hC dL_law_1381 rfl 0 rfl ?_
    refine z_iload hC dL_law_1382 4 rfl ?_
    refine z_iconst (v := 1) hC (by decide) dL_law_1384 ?_
    refine z_iadd hC dL_law_1385 ?_
    refine z_sld hC hX h1 dL_law_1386 ?_
    rw [e1]
    refine z_aload_n hC dL_law_1387 rfl 0 rfl ?_
    refine z_iload hC dL_law_1388 4 rfl ?_
    refine z_iconst (v := 2) hC (by decide) dL_law_1390 ?_
    refine z_iadd hC dL_law_1391 ?_
    refine z_sld hC hX h2 dL_law_1392 ?_
    rw [e2]
    refine z_aload_n hC dL_law_1393 rfl 0 rfl ?_
    refine z_iload hC dL_law_1394 4 rfl ?_
    refine z_iconst (v := 3) hC (by decide) dL_law_1396 ?_
    refine z_iadd hC dL_law_1397 ?_
    refine z_sld hC hX h3 dL_law_1398 ?_
    rw [e3]
    refine z_if_eq (tgt := 1406) hC dL_law_1399 (by decide) (fun _ => ?_) (fun h => absurd hz h)
    refine z_iconst (v := 0) hC (by decide) dL_law_1406 ?_
    refine z_aload_n hC dL_law_1407 rfl 0 rfl ?_
    refine z_iload hC dL_law_1408 4 rfl ?_
    refine z_iconst (v := 4) hC (by decide) dL_law_1410 ?_
    refine z_iadd hC dL_law_1411 ?_
    refine z_sld hC hX h4 dL_law_1412 ?_
    rw [e4]
    refine zc_iIL hC [.int a1, .int a2, .int 0, .int a4] [.int r] me_X8_innings mlL_136 im_X8_innings se_X8_innings rfl (by decide) at_83 (ci := 8) (T_X8_innings a1 a2 0 a4 I1 L1 _ q8) (by decide) rfl (Nat.le_of_ble_eq_true rfl) dL_law_1413 rfl ?_
    exact z_icmp_eq (tgt := 1817) hC dL_law_1416 (by decide) (fun _ => hK _ _ hrel) (fun h => absurd rfl h)
  · obtain ⟨r, I1, L1, I2, L2, q7, q8, hrel⟩ := hS a1 a2 1 a4 (by decide) I L hrel0
    refine z_aload_n hC dL_law_1344 rfl 1 rfl ?_
    refine z_aload_n hC dL_law_1345 rfl 0 rfl ?_
    refine z_iload hC dL_law_1346 4 rfl ?_
    refine z_iconst (v := 1) hC (by decide) dL_law_1348 ?_
    refine z_iadd hC dL_law_1349 ?_
    refine z_sld hC hX h1 dL_law_1350 ?_
    rw [e1]
    refine z_aload_n hC dL_law_1351 rfl 0 rfl ?_
    refine z_iload hC dL_law_1352 4 rfl ?_
    refine z_iconst (v := 2) hC (by decide) dL_law_1354 ?_
    refine z_iadd hC dL_law_1355 ?_
    refine z_sld hC hX h2 dL_law_1356 ?_
    rw [e2]
    refine z_aload_n hC dL_law_1357 rfl 0 rfl ?_
    refine z_iload hC dL_law_1358 4 rfl ?_
    refine z_iconst (v := 3) hC (by decide) dL_law_1360 ?_
    refine z_iadd hC dL_law_1361 ?_
    refine z_sld hC hX h3 dL_law_1362 ?_
    rw [e3]
    refine z_if_eq (tgt := 1370) hC dL_law_1363 (by decide) (fun h => absurd h hz) (fun _ => ?_)
    refine z_iconst (v := 1) hC (by decide) dL_law_1366 ?_
    refine z_goto (tgt := 1371) hC dL_law_1367 (by decide) ?_
    refine z_aload_n hC dL_law_1371 rfl 0 rfl ?_
    refine z_iload hC dL_law_1372 4 rfl ?_
    refine z_iconst (v := 4) hC (by decide) dL_law_1374 ?_
    refine z_iadd hC dL_law_1375 ?_
    refine z_sld hC hX h4 dL_law_1376 ?_
    rw [e4]
    refine zc_iIL hC [.int a1, .int a2, .int 1, .int a4] [] me_X7_innings mlL_132 im_X7_innings se_X7_innings rfl (by decide) at_0 (ci := 7) (T_X7_innings a1 a2 1 a4 I L _ q7) (by decide) rfl (Nat.le_of_ble_eq_true rfl) dL_law_1377 rfl ?_
    refine z_aload_n hC dL_law_1380 rfl 2 rfl ?_
    refine z_aload_n hC dL_law_1381 rfl 0 rfl ?_
    refine z_iload hC dL_law_1382 4 rfl ?_
    refine z_iconst (v := 1) hC (by decide) dL_law_1384 ?_
    refine z_iadd hC dL_law_1385 ?_
    refine z_sld hC hX h1 dL_law_1386 ?_
    rw [e1]
    refine z_aload_n hC dL_law_1387 rfl 0 rfl ?_
    refine z_iload hC dL_law_1388 4 rfl ?_
    refine z_iconst (v := 2) hC (by decide) dL_law_1390 ?_
    refine z_iadd hC dL_law_1391 ?_
    refine z_sld hC hX h2 dL_law_1392 ?_
    rw [e2]
    refine z_aload_n hC dL_law_1393 rfl 0 rfl ?_
    refine z_iload hC dL_law_1394 4 rfl ?_
    refine z_iconst (v := 3) hC (by decide) dL_law_1396 ?_
    refine z_iadd hC dL_law_1397 ?_
    refine z_sld hC hX h3 dL_law_1398 ?_
    rw [e3]
    refine z_if_eq (tgt := 1406) hC dL_law_1399 (by decide) (fun h => absurd h hz) (fun _ => ?_)
    refine z_iconst (v := 1) hC (by decide) dL_law_1402 ?_
    refine z_goto (tgt := 1407) hC dL_law_1403 (by decide) ?_
    refine z_aload_n hC dL_law_1407 rfl 0 rfl ?_
    refine z_iload hC dL_law_1408 4 rfl ?_
    refine z_iconst (v := 4) hC (by decide) dL_law_1410 ?_
    refine z_iadd hC dL_law_1411 ?_
    refine z_sld hC hX h4 dL_law_1412 ?_
    rw [e4]
    refine zc_iIL hC [.int a1, .int a2, .int 1, .int a4] [.int r] me_X8_innings mlL_136 im_X8_innings se_X8_innings rfl (by decide) at_83 (ci := 8) (T_X8_innings a1 a2 1 a4 I1 L1 _ q8) (by decide) rfl (Nat.le_of_ble_eq_true rfl) dL_law_1413 rfl ?_
    exact z_icmp_eq (tgt := 1817) hC dL_law_1416 (by decide) (fun _ => hK _ _ hrel) (fun h => absurd rfl h)
def ST_event (Rel Rel2 : e_I → e_L → Prop) : Prop := ∀ (a1 : Int32) (I : e_I) (L : e_L), Rel I L → ∃ (r : Int32) (I1 : e_I) (I2 : e_I), f_X7_event a1 I = some (r, I1) ∧ f_X8_event a1 I1 = some (r, I2) ∧ Rel2 I2 L
set_option maxRecDepth 100000 in
set_option maxHeartbeats 4000000 in
theorem LC_event {X : e_X} {Q : State → Prop} {N : Nat} {xs : Nat → Int32} {Rel Rel2 : e_I → e_L → Prop} (hC : e_C X cL_law RL 7 (some .boolean) 40 gN) (hX : e_SC X N xs) {x : Int32} (h1 : vp_in (x + 1) N) {a1 : Int32} (e1 : xs (x + 1).toNatClampNeg = a1) (I : e_I) (L : e_L) (hrel0 : Rel I L) (hS : ST_event Rel Rel2) (hK : ∀ (I : e_I) (L : e_L), Rel2 I L → Z X Q 1817 [(0, .ref 4000), (1, .ref 0), (2, .ref 83), (3, .ref 97), (4, .int x)] [] I L) : Z X Q 1421 [(0, .ref 4000), (1, .ref 0), (2, .ref 83), (3, .ref 97), (4, .int x)] [] I L := by
  obtain ⟨r, I1, I2, q7, q8, hrel⟩ := hS a1 I L hrel0
  refine z_aload_n hC dL_law_1421 rfl 1 rfl ?_
  refine z_aload_n hC dL_law_1422 rfl 0 rfl ?_
  refine z_iload hC dL_law_1423 4 rfl ?_
  refine z_iconst (v := 1) hC (by decide) dL_law_1425 ?_
  refine z_iadd hC dL_law_1426 ?_
  refine z_sld hC hX h1 dL_law_1427 ?_
  rw [e1]
  refine zc_iI hC [.int a1] [] me_X7_event mlL_137 im_X7_event se_X7_event rfl (by decide) at_0 (ci := 7) (T_X7_event a1 I L _ q7) (by decide) rfl (Nat.le_of_ble_eq_true rfl) dL_law_1428 rfl ?_
  refine z_aload_n hC dL_law_1431 rfl 2 rfl ?_
  refine z_aload_n hC dL_law_1432 rfl 0 rfl ?_
  refine z_iload hC dL_law_1433 4 rfl ?_
  refine z_iconst (v := 1) hC (by decide) dL_law_1435 ?_
  refine z_iadd hC dL_law_1436 ?_
  refine z_sld hC hX h1 dL_law_1437 ?_
  rw [e1]
  refine zc_iI hC [.int a1] [.int r] me_X8_event mlL_140 im_X8_event se_X8_event rfl (by decide) at_83 (ci := 8) (T_X8_event a1 I1 L _ q8) (by decide) rfl (Nat.le_of_ble_eq_true rfl) dL_law_1438 rfl ?_
  exact z_icmp_eq (tgt := 1817) hC dL_law_1441 (by decide) (fun _ => hK _ _ hrel) (fun h => absurd rfl h)
def ST_play (Rel Rel2 : e_I → e_L → Prop) : Prop := ∀ (a1 : Int32) (a2 : Int32) (a3 : Int32) (ha3 : a3 = 0 ∨ a3 = 1) (I : e_I) (L : e_L), Rel I L → ∃ (r : Int32) (I1 : e_I) (L1 : e_L) (I2 : e_I) (L2 : e_L), f_X7_play a1 a2 a3 I L = some (r, I1, L1) ∧ f_X8_play a1 a2 a3 I1 L1 = some (r, I2, L2) ∧ Rel2 I2 L2
set_option maxRecDepth 100000 in
set_option maxHeartbeats 4000000 in
theorem LC_play {X : e_X} {Q : State → Prop} {N : Nat} {xs : Nat → Int32} {Rel Rel2 : e_I → e_L → Prop} (hC : e_C X cL_law RL 7 (some .boolean) 40 gN) (hX : e_SC X N xs) {x : Int32} (h1 : vp_in (x + 1) N) {a1 : Int32} (e1 : xs (x + 1).toNatClampNeg = a1) (h2 : vp_in (x + 2) N) {a2 : Int32} (e2 : xs (x + 2).toNatClampNeg = a2) (h3 : vp_in (x + 3) N) {a3 : Int32} (e3 : xs (x + 3).toNatClampNeg = a3) (I : e_I) (L : e_L) (hrel0 : Rel I L) (hS : ST_play Rel Rel2) (hK : ∀ (I : e_I) (L : e_L), Rel2 I L → Z X Q 1817 [(0, .ref 4000), (1, .ref 0), (2, .ref 83), (3, .ref 97), (4, .int x)] [] I L) : Z X Q 1446 [(0, .ref 4000), (1, .ref 0), (2, .ref 83), (3, .ref 97), (4, .int x)] [] I L := by
  by_cases hz : a3 = 0
  · obtain ⟨r, I1, L1, I2, L2, q7, q8, hrel⟩ := hS a1 a2 0 (by decide) I L hrel0
    refine z_aload_n hC dL_law_1446 rfl 1 rfl ?_
    refine z_aload_n hC dL_law_1447 rfl 0 rfl ?_
    refine z_iload hC dL_law_1448 4 rfl ?_
    refine z_iconst (v := 1) hC (by decide) dL_law_1450 ?_
    refine z_iadd hC dL_law_1451 ?_
    refine z_sld hC hX h1 dL_law_1452 ?_
    rw [e1]
    refine z_aload_n hC dL_law_1453 rfl 0 rfl ?_
    refine z_iload hC dL_law_1454 4 rfl ?_
    refine z_iconst (v := 2) hC (by decide) dL_law_1456 ?_
    refine z_iadd hC dL_law_1457 ?_
    refine z_sld hC hX h2 dL_law_1458 ?_
    rw [e2]
    refine z_aload_n hC dL_law_1459 rfl 0 rfl ?_
    refine z_iload hC dL_law_1460 4 rfl ?_
    refine z_iconst (v := 3) hC (by decide) dL_law_1462 ?_
    refine z_iadd hC dL_law_1463 ?_
    refine z_sld hC hX h3 dL_law_1464 ?_
    rw [e3]
    refine z_if_eq (tgt := 1472) hC dL_law_1465 (by decide) (fun _ => ?_) (fun h => absurd hz h)
    refine z_iconst (v := 0) hC (by decide) dL_law_1472 ?_
    refine zc_iIL hC [.int a1, .int a2, .int 0] [] me_X7_play mlL_141 im_X7_play se_X7_play rfl (by decide) at_0 (ci := 7) (T_X7_play a1 a2 0 I L _ q7) (by decide) rfl (Nat.le_of_ble_eq_true rfl) dL_law_1473 rfl ?_
    refine z_aload_n hC dL_law_1476 rfl 2 rfl ?_
    refine z_aload_n hC dL_law_1477 rfl 0 rfl ?_
    refine z_iload hC dL_law_1478 4 rfl ?_
    refine z_iconst (v := 1) hC (by decide) dL_law_1480 ?_
    refine z_iadd hC dL_law_1481 ?_
    refine z_sld hC hX h1 dL_law_1482 ?_
    rw [e1]
    refine z_aload_n hC dL_law_1483 rfl 0 rfl ?_
    refine z_iload hC dL_law_1484 4 rfl ?_
    refine z_iconst (v := 2) hC (by decide) dL_law_1486 ?_
    refine z_iadd hC dL_law_1487 ?_
    refine z_sld hC hX h2 dL_law_1488 ?_
    rw [e2]
    refine z_aload_n hC dL_law_1489 rfl 0 rfl ?_
    refine z_iload hC dL_law_1490 4 rfl ?_
    refine z_iconst (v := 3) hC (by decide) dL_law_1492 ?_
    refine z_iadd hC dL_law_1493 ?_
    refine z_sld hC hX h3 dL_law_1494 ?_
    rw [e3]
    refine z_if_eq (tgt := 1502) hC dL_law_1495 (by decide) (fun _ => ?_) (fun h => absurd hz h)
    refine z_iconst (v := 0) hC (by decide) dL_law_1502 ?_
    refine zc_iIL hC [.int a1, .int a2, .int 0] [.int r] me_X8_play mlL_145 im_X8_play se_X8_play rfl (by decide) at_83 (ci := 8) (T_X8_play a1 a2 0 I1 L1 _ q8) (by decide) rfl (Nat.le_of_ble_eq_true rfl) dL_law_1503 rfl ?_
    exact z_icmp_eq (tgt := 1817) hC dL_law_1506 (by decide) (fun _ => hK _ _ hrel) (fun h => absurd rfl h)
  · obtain ⟨r, I1, L1, I2, L2, q7, q8, hrel⟩ := hS a1 a2 1 (by decide) I L hrel0
    refine z_aload_n hC dL_law_1446 rfl 1 rfl ?_
    refine z_aload_n hC dL_law_1447 rfl 0 rfl ?_
    refine z_iload hC dL_law_1448 4 rfl ?_
    refine z_iconst (v := 1) hC (by decide) dL_law_1450 ?_
    refine z_iadd hC dL_law_1451 ?_
    refine z_sld hC hX h1 dL_law_1452 ?_
    rw [e1]
    refine z_aload_n hC dL_law_1453 rfl 0 rfl ?_
    refine z_iload hC dL_law_1454 4 rfl ?_
    refine z_iconst (v := 2) hC (by decide) dL_law_1456 ?_
    refine z_iadd hC dL_law_1457 ?_
    refine z_sld hC hX h2 dL_law_1458 ?_
    rw [e2]
    refine z_aload_n hC dL_law_1459 rfl 0 rfl ?_
    refine z_iload hC dL_law_1460 4 rfl ?_
    refine z_iconst (v := 3) hC (by decide) dL_law_1462 ?_
    refine z_iadd hC dL_law_1463 ?_
    refine z_sld hC hX h3 dL_law_1464 ?_
    rw [e3]
    refine z_if_eq (tgt := 1472) hC dL_law_1465 (by decide) (fun h => absurd h hz) (fun _ => ?_)
    refine z_iconst (v := 1) hC (by decide) dL_law_1468 ?_
    refine z_goto (tgt := 1473) hC dL_law_1469 (by decide) ?_
    refine zc_iIL hC [.int a1, .int a2, .int 1] [] me_X7_play mlL_141 im_X7_play se_X7_play rfl (by decide) at_0 (ci := 7) (T_X7_play a1 a2 1 I L _ q7) (by decide) rfl (Nat.le_of_ble_eq_true rfl) dL_law_1473 rfl ?_
    refine z_aload_n hC dL_law_1476 rfl 2 rfl ?_
    refine z_aload_n hC dL_law_1477 rfl 0 rfl ?_
    refine z_iload hC dL_law_1478 4 rfl ?_
    refine z_iconst (v := 1) hC (by decide) dL_law_1480 ?_
    refine z_iadd hC dL_law_1481 ?_
    refine z_sld hC hX h1 dL_law_1482 ?_
    rw [e1]
    refine z_aload_n hC dL_law_1483 rfl 0 rfl ?_
    refine z_iload hC dL_law_1484 4 rfl ?_
    refine z_iconst (v := 2) hC (by decide) dL_law_1486 ?_
    refine z_iadd hC dL_law_1487 ?_
    refine z_sld hC hX h2 dL_law_1488 ?_
    rw [e2]
    refine z_aload_n hC dL_law_1489 rfl 0 rfl ?_
    refine z_iload hC dL_law_1490 4 rfl ?_
    refine z_iconst (v := 3) hC (by decide) dL_law_1492 ?_
    refine z_iadd hC dL_law_1493 ?_
    refine z_sld hC hX h3 dL_law_1494 ?_
    rw [e3]
    refine z_if_eq (tgt := 1502) hC dL_law_1495 (by decide) (fun h => absurd h hz) (fun _ => ?_)
    refine z_iconst (v := 1) hC (by decide) dL_law_1498 ?_
    refine z_goto (tgt := 1503) hC dL_law_1499 (by decide) ?_
    refine zc_iIL hC [.int a1, .int a2, .int 1] [.int r] me_X8_play mlL_145 im_X8_play se_X8_play rfl (by decide) at_83 (ci := 8) (T_X8_play a1 a2 1 I1 L1 _ q8) (by decide) rfl (Nat.le_of_ble_eq_true rfl) dL_law_1503 rfl ?_
    exact z_icmp_eq (tgt := 1817) hC dL_law_1506 (by decide) (fun _ => hK _ _ hrel) (fun h => absurd rfl h)
def ST_relieve (Rel Rel2 : e_I → e_L → Prop) : Prop := ∀ (I : e_I) (L : e_L), Rel I L → ∃ (r : Int32) (I1 : e_I) (I2 : e_I), f_X7_relieve I = some (r, I1) ∧ f_X8_relieve I1 = some (r, I2) ∧ Rel2 I2 L
set_option maxRecDepth 100000 in
set_option maxHeartbeats 4000000 in
theorem LC_relieve {X : e_X} {Q : State → Prop} {N : Nat} {xs : Nat → Int32} {Rel Rel2 : e_I → e_L → Prop} (hC : e_C X cL_law RL 7 (some .boolean) 40 gN) (hX : e_SC X N xs) {x : Int32} (I : e_I) (L : e_L) (hrel0 : Rel I L) (hS : ST_relieve Rel Rel2) (hK : ∀ (I : e_I) (L : e_L), Rel2 I L → Z X Q 1817 [(0, .ref 4000), (1, .ref 0), (2, .ref 83), (3, .ref 97), (4, .int x)] [] I L) : Z X Q 1511 [(0, .ref 4000), (1, .ref 0), (2, .ref 83), (3, .ref 97), (4, .int x)] [] I L := by
  obtain ⟨r, I1, I2, q7, q8, hrel⟩ := hS  I L hrel0
  refine z_aload_n hC dL_law_1511 rfl 1 rfl ?_
  refine zc_iI hC [] [] me_X7_relieve mlL_146 im_X7_relieve se_X7_relieve rfl (by decide) at_0 (ci := 7) (T_X7_relieve I L _ q7) (by decide) rfl (Nat.le_of_ble_eq_true rfl) dL_law_1512 rfl ?_
  refine z_aload_n hC dL_law_1515 rfl 2 rfl ?_
  refine zc_iI hC [] [.int r] me_X8_relieve mlL_149 im_X8_relieve se_X8_relieve rfl (by decide) at_83 (ci := 8) (T_X8_relieve I1 L _ q8) (by decide) rfl (Nat.le_of_ble_eq_true rfl) dL_law_1516 rfl ?_
  exact z_icmp_eq (tgt := 1817) hC dL_law_1519 (by decide) (fun _ => hK _ _ hrel) (fun h => absurd rfl h)
def ST_begin (Rel Rel2 : e_I → e_L → Prop) : Prop := ∀ (I : e_I) (L : e_L), Rel I L → ∃ (r : Int32) (I1 : e_I) (I2 : e_I), f_X7_begin I = some (r, I1) ∧ f_X8_begin I1 = some (r, I2) ∧ Rel2 I2 L
set_option maxRecDepth 100000 in
set_option maxHeartbeats 4000000 in
theorem LC_begin {X : e_X} {Q : State → Prop} {N : Nat} {xs : Nat → Int32} {Rel Rel2 : e_I → e_L → Prop} (hC : e_C X cL_law RL 7 (some .boolean) 40 gN) (hX : e_SC X N xs) {x : Int32} (I : e_I) (L : e_L) (hrel0 : Rel I L) (hS : ST_begin Rel Rel2) (hK : ∀ (I : e_I) (L : e_L), Rel2 I L → Z X Q 1817 [(0, .ref 4000), (1, .ref 0), (2, .ref 83), (3, .ref 97), (4, .int x)] [] I L) : Z X Q 1524 [(0, .ref 4000), (1, .ref 0), (2, .ref 83), (3, .ref 97), (4, .int x)] [] I L := by
  obtain ⟨r, I1, I2, q7, q8, hrel⟩ := hS  I L hrel0
  refine z_aload_n hC dL_law_1524 rfl 1 rfl ?_
  refine zc_iI hC [] [] me_X7_begin mlL_150 im_X7_begin se_X7_begin rfl (by decide) at_0 (ci := 7) (T_X7_begin I L _ q7) (by decide) rfl (Nat.le_of_ble_eq_true rfl) dL_law_1525 rfl ?_
  refine z_aload_n hC dL_law_1528 rfl 2 rfl ?_
  refine zc_iI hC [] [.int r] me_X8_begin mlL_153 im_X8_begin se_X8_begin rfl (by decide) at_83 (ci := 8) (T_X8_begin I1 L _ q8) (by decide) rfl (Nat.le_of_ble_eq_true rfl) dL_law_1529 rfl ?_
  exact z_icmp_eq (tgt := 1817) hC dL_law_1532 (by decide) (fun _ => hK _ _ hrel) (fun h => absurd rfl h)
def ST_swap (Rel Rel2 : e_I → e_L → Prop) : Prop := ∀ (a1 : Int32) (a2 : Int32) (I : e_I) (L : e_L), Rel I L → ∃ (r : Int32) (I1 : e_I) (I2 : e_I), f_X7_swap a1 a2 I = some (r, I1) ∧ f_X8_swap a1 a2 I1 = some (r, I2) ∧ Rel2 I2 L
set_option maxRecDepth 100000 in
set_option maxHeartbeats 4000000 in
theorem LC_swap {X : e_X} {Q : State → Prop} {N : Nat} {xs : Nat → Int32} {Rel Rel2 : e_I → e_L → Prop} (hC : e_C X cL_law RL 7 (some .boolean) 40 gN) (hX : e_SC X N xs) {x : Int32} (h1 : vp_in (x + 1) N) {a1 : Int32} (e1 : xs (x + 1).toNatClampNeg = a1) (h2 : vp_in (x + 2) N) {a2 : Int32} (e2 : xs (x + 2).toNatClampNeg = a2) (I : e_I) (L : e_L) (hrel0 : Rel I L) (hS : ST_swap Rel Rel2) (hK : ∀ (I : e_I) (L : e_L), Rel2 I L → Z X Q 1817 [(0, .ref 4000), (1, .ref 0), (2, .ref 83), (3, .ref 97), (4, .int x)] [] I L) : Z X Q 1537 [(0, .ref 4000), (1, .ref 0), (2, .ref 83), (3, .ref 97), (4, .int x)] [] I L := by
  obtain ⟨r, I1, I2, q7, q8, hrel⟩ := hS a1 a2 I L hrel0
  refine z_aload_n hC dL_law_1537 rfl 1 rfl ?_
  refine z_aload_n hC dL_law_1538 rfl 0 rfl ?_
  refine z_iload hC dL_law_1539 4 rfl ?_
  refine z_iconst (v := 1) hC (by decide) dL_law_1541 ?_
  refine z_iadd hC dL_law_1542 ?_
  refine z_sld hC hX h1 dL_law_1543 ?_
  rw [e1]
  refine z_aload_n hC dL_law_1544 rfl 0 rfl ?_
  refine z_iload hC dL_law_1545 4 rfl ?_
  refine z_iconst (v := 2) hC (by decide) dL_law_1547 ?_
  refine z_iadd hC dL_law_1548 ?_
  refine z_sld hC hX h2 dL_law_1549 ?_
  rw [e2]
  refine zc_iI hC [.int a1, .int a2] [] me_X7_swap mlL_154 im_X7_swap se_X7_swap rfl (by decide) at_0 (ci := 7) (T_X7_swap a1 a2 I L _ q7) (by decide) rfl (Nat.le_of_ble_eq_true rfl) dL_law_1550 rfl ?_
  refine z_aload_n hC dL_law_1553 rfl 2 rfl ?_
  refine z_aload_n hC dL_law_1554 rfl 0 rfl ?_
  refine z_iload hC dL_law_1555 4 rfl ?_
  refine z_iconst (v := 1) hC (by decide) dL_law_1557 ?_
  refine z_iadd hC dL_law_1558 ?_
  refine z_sld hC hX h1 dL_law_1559 ?_
  rw [e1]
  refine z_aload_n hC dL_law_1560 rfl 0 rfl ?_
  refine z_iload hC dL_law_1561 4 rfl ?_
  refine z_iconst (v := 2) hC (by decide) dL_law_1563 ?_
  refine z_iadd hC dL_law_1564 ?_
  refine z_sld hC hX h2 dL_law_1565 ?_
  rw [e2]
  refine zc_iI hC [.int a1, .int a2] [.int r] me_X8_swap mlL_157 im_X8_swap se_X8_swap rfl (by decide) at_83 (ci := 8) (T_X8_swap a1 a2 I1 L _ q8) (by decide) rfl (Nat.le_of_ble_eq_true rfl) dL_law_1566 rfl ?_
  exact z_icmp_eq (tgt := 1817) hC dL_law_1569 (by decide) (fun _ => hK _ _ hrel) (fun h => absurd rfl h)
def ST_lay (Rel Rel2 : e_I → e_L → Prop) : Prop := ∀ (a1 : Int32) (I : e_I) (L : e_L), Rel I L → ∃ (r : Int32) (I1 : e_I) (L1 : e_L) (I2 : e_I) (L2 : e_L), f_X7_lay a1 I L = some (r, I1, L1) ∧ f_X8_lay a1 I1 L1 = some (r, I2, L2) ∧ Rel2 I2 L2
set_option maxRecDepth 100000 in
set_option maxHeartbeats 4000000 in
theorem LC_lay {X : e_X} {Q : State → Prop} {N : Nat} {xs : Nat → Int32} {Rel Rel2 : e_I → e_L → Prop} (hC : e_C X cL_law RL 7 (some .boolean) 40 gN) (hX : e_SC X N xs) {x : Int32} (h1 : vp_in (x + 1) N) {a1 : Int32} (e1 : xs (x + 1).toNatClampNeg = a1) (I : e_I) (L : e_L) (hrel0 : Rel I L) (hS : ST_lay Rel Rel2) (hK : ∀ (I : e_I) (L : e_L), Rel2 I L → Z X Q 1817 [(0, .ref 4000), (1, .ref 0), (2, .ref 83), (3, .ref 97), (4, .int x)] [] I L) : Z X Q 1574 [(0, .ref 4000), (1, .ref 0), (2, .ref 83), (3, .ref 97), (4, .int x)] [] I L := by
  obtain ⟨r, I1, L1, I2, L2, q7, q8, hrel⟩ := hS a1 I L hrel0
  refine z_aload_n hC dL_law_1574 rfl 1 rfl ?_
  refine z_aload_n hC dL_law_1575 rfl 0 rfl ?_
  refine z_iload hC dL_law_1576 4 rfl ?_
  refine z_iconst (v := 1) hC (by decide) dL_law_1578 ?_
  refine z_iadd hC dL_law_1579 ?_
  refine z_sld hC hX h1 dL_law_1580 ?_
  rw [e1]
  refine zc_iIL hC [.int a1] [] me_X7_lay mlL_158 im_X7_lay se_X7_lay rfl (by decide) at_0 (ci := 7) (T_X7_lay a1 I L _ q7) (by decide) rfl (Nat.le_of_ble_eq_true rfl) dL_law_1581 rfl ?_
  refine z_aload_n hC dL_law_1584 rfl 2 rfl ?_
  refine z_aload_n hC dL_law_1585 rfl 0 rfl ?_
  refine z_iload hC dL_law_1586 4 rfl ?_
  refine z_iconst (v := 1) hC (by decide) dL_law_1588 ?_
  refine z_iadd hC dL_law_1589 ?_
  refine z_sld hC hX h1 dL_law_1590 ?_
  rw [e1]
  refine zc_iIL hC [.int a1] [.int r] me_X8_lay mlL_161 im_X8_lay se_X8_lay rfl (by decide) at_83 (ci := 8) (T_X8_lay a1 I1 L1 _ q8) (by decide) rfl (Nat.le_of_ble_eq_true rfl) dL_law_1591 rfl ?_
  exact z_icmp_eq (tgt := 1817) hC dL_law_1594 (by decide) (fun _ => hK _ _ hrel) (fun h => absurd rfl h)
def ST_better (Rel Rel2 : e_I → e_L → Prop) : Prop := ∀ (a1 : Int32) (I : e_I) (L : e_L), Rel I L → ∃ (r : Int32) (I1 : e_I) (L1 : e_L) (I2 : e_I) (L2 : e_L), f_X7_better a1 I L = some (r, I1, L1) ∧ f_X8_better a1 I1 L1 = some (r, I2, L2) ∧ Rel2 I2 L2
set_option maxRecDepth 100000 in
set_option maxHeartbeats 4000000 in
theorem LC_better {X : e_X} {Q : State → Prop} {N : Nat} {xs : Nat → Int32} {Rel Rel2 : e_I → e_L → Prop} (hC : e_C X cL_law RL 7 (some .boolean) 40 gN) (hX : e_SC X N xs) {x : Int32} (h1 : vp_in (x + 1) N) {a1 : Int32} (e1 : xs (x + 1).toNatClampNeg = a1) (I : e_I) (L : e_L) (hrel0 : Rel I L) (hS : ST_better Rel Rel2) (hK : ∀ (I : e_I) (L : e_L), Rel2 I L → Z X Q 1817 [(0, .ref 4000), (1, .ref 0), (2, .ref 83), (3, .ref 97), (4, .int x)] [] I L) : Z X Q 1599 [(0, .ref 4000), (1, .ref 0), (2, .ref 83), (3, .ref 97), (4, .int x)] [] I L := by
  obtain ⟨r, I1, L1, I2, L2, q7, q8, hrel⟩ := hS a1 I L hrel0
  refine z_aload_n hC dL_law_1599 rfl 1 rfl ?_
  refine z_aload_n hC dL_law_1600 rfl 0 rfl ?_
  refine z_iload hC dL_law_1601 4 rfl ?_
  refine z_iconst (v := 1) hC (by decide) dL_law_1603 ?_
  refine z_iadd hC dL_law_1604 ?_
  refine z_sld hC hX h1 dL_law_1605 ?_
  rw [e1]
  refine zc_iIL hC [.int a1] [] me_X7_better mlL_162 im_X7_better se_X7_better rfl (by decide) at_0 (ci := 7) (T_X7_better a1 I L _ q7) (by decide) rfl (Nat.le_of_ble_eq_true rfl) dL_law_1606 rfl ?_
  refine z_aload_n hC dL_law_1609 rfl 2 rfl ?_
  refine z_aload_n hC dL_law_1610 rfl 0 rfl ?_
  refine z_iload hC dL_law_1611 4 rfl ?_
  refine z_iconst (v := 1) hC (by decide) dL_law_1613 ?_
  refine z_iadd hC dL_law_1614 ?_
  refine z_sld hC hX h1 dL_law_1615 ?_
  rw [e1]
  refine zc_iIL hC [.int a1] [.int r] me_X8_better mlL_165 im_X8_better se_X8_better rfl (by decide) at_83 (ci := 8) (T_X8_better a1 I1 L1 _ q8) (by decide) rfl (Nat.le_of_ble_eq_true rfl) dL_law_1616 rfl ?_
  exact z_icmp_eq (tgt := 1817) hC dL_law_1619 (by decide) (fun _ => hK _ _ hrel) (fun h => absurd rfl h)
def ST_shift (Rel Rel2 : e_I → e_L → Prop) : Prop := ∀ (a1 : Int32) (a2 : Int32) (a3 : Int32) (a4 : Int32) (I : e_I) (L : e_L), Rel I L → ∃ (r : Int32) (I1 : e_I) (I2 : e_I), f_X7_shift a1 a2 a3 a4 I = some (r, I1) ∧ f_X8_shift a1 a2 a3 a4 I1 = some (r, I2) ∧ Rel2 I2 L
set_option maxRecDepth 100000 in
set_option maxHeartbeats 4000000 in
theorem LC_shift {X : e_X} {Q : State → Prop} {N : Nat} {xs : Nat → Int32} {Rel Rel2 : e_I → e_L → Prop} (hC : e_C X cL_law RL 7 (some .boolean) 40 gN) (hX : e_SC X N xs) {x : Int32} (h1 : vp_in (x + 1) N) {a1 : Int32} (e1 : xs (x + 1).toNatClampNeg = a1) (h2 : vp_in (x + 2) N) {a2 : Int32} (e2 : xs (x + 2).toNatClampNeg = a2) (h3 : vp_in (x + 3) N) {a3 : Int32} (e3 : xs (x + 3).toNatClampNeg = a3) (h4 : vp_in (x + 4) N) {a4 : Int32} (e4 : xs (x + 4).toNatClampNeg = a4) (I : e_I) (L : e_L) (hrel0 : Rel I L) (hS : ST_shift Rel Rel2) (hK : ∀ (I : e_I) (L : e_L), Rel2 I L → Z X Q 1817 [(0, .ref 4000), (1, .ref 0), (2, .ref 83), (3, .ref 97), (4, .int x)] [] I L) : Z X Q 1624 [(0, .ref 4000), (1, .ref 0), (2, .ref 83), (3, .ref 97), (4, .int x)] [] I L := by
  obtain ⟨r, I1, I2, q7, q8, hrel⟩ := hS a1 a2 a3 a4 I L hrel0
  refine z_aload_n hC dL_law_1624 rfl 1 rfl ?_
  refine z_aload_n hC dL_law_1625 rfl 0 rfl ?_
  refine z_iload hC dL_law_1626 4 rfl ?_
  refine z_iconst (v := 1) hC (by decide) dL_law_1628 ?_
  refine z_iadd hC dL_law_1629 ?_
  refine z_sld hC hX h1 dL_law_1630 ?_
  rw [e1]
  refine z_aload_n hC dL_law_1631 rfl 0 rfl ?_
  refine z_iload hC dL_law_1632 4 rfl ?_
  refine z_iconst (v := 2) hC (by decide) dL_law_1634 ?_
  refine z_iadd hC dL_law_1635 ?_
  refine z_sld hC hX h2 dL_law_1636 ?_
  rw [e2]
  refine z_aload_n hC dL_law_1637 rfl 0 rfl ?_
  refine z_iload hC dL_law_1638 4 rfl ?_
  refine z_iconst (v := 3) hC (by decide) dL_law_1640 ?_
  refine z_iadd hC dL_law_1641 ?_
  refine z_sld hC hX h3 dL_law_1642 ?_
  rw [e3]
  refine z_aload_n hC dL_law_1643 rfl 0 rfl ?_
  refine z_iload hC dL_law_1644 4 rfl ?_
  refine z_iconst (v := 4) hC (by decide) dL_law_1646 ?_
  refine z_iadd hC dL_law_1647 ?_
  refine z_sld hC hX h4 dL_law_1648 ?_
  rw [e4]
  refine zc_iI hC [.int a1, .int a2, .int a3, .int a4] [] me_X7_shift mlL_166 im_X7_shift se_X7_shift rfl (by decide) at_0 (ci := 7) (T_X7_shift a1 a2 a3 a4 I L _ q7) (by decide) rfl (Nat.le_of_ble_eq_true rfl) dL_law_1649 rfl ?_
  refine z_aload_n hC dL_law_1652 rfl 2 rfl ?_
  refine z_aload_n hC dL_law_1653 rfl 0 rfl ?_
  refine z_iload hC dL_law_1654 4 rfl ?_
  refine z_iconst (v := 1) hC (by decide) dL_law_1656 ?_
  refine z_iadd hC dL_law_1657 ?_
  refine z_sld hC hX h1 dL_law_1658 ?_
  rw [e1]
  refine z_aload_n hC dL_law_1659 rfl 0 rfl ?_
  refine z_iload hC dL_law_1660 4 rfl ?_
  refine z_iconst (v := 2) hC (by decide) dL_law_1662 ?_
  refine z_iadd hC dL_law_1663 ?_
  refine z_sld hC hX h2 dL_law_1664 ?_
  rw [e2]
  refine z_aload_n hC dL_law_1665 rfl 0 rfl ?_
  refine z_iload hC dL_law_1666 4 rfl ?_
  refine z_iconst (v := 3) hC (by decide) dL_law_1668 ?_
  refine z_iadd hC dL_law_1669 ?_
  refine z_sld hC hX h3 dL_law_1670 ?_
  rw [e3]
  refine z_aload_n hC dL_law_1671 rfl 0 rfl ?_
  refine z_iload hC dL_law_1672 4 rfl ?_
  refine z_iconst (v := 4) hC (by decide) dL_law_1674 ?_
  refine z_iadd hC dL_law_1675 ?_
  refine z_sld hC hX h4 dL_law_1676 ?_
  rw [e4]
  refine zc_iI hC [.int a1, .int a2, .int a3, .int a4] [.int r] me_X8_shift mlL_169 im_X8_shift se_X8_shift rfl (by decide) at_83 (ci := 8) (T_X8_shift a1 a2 a3 a4 I1 L _ q8) (by decide) rfl (Nat.le_of_ble_eq_true rfl) dL_law_1677 rfl ?_
  exact z_icmp_eq (tgt := 1817) hC dL_law_1680 (by decide) (fun _ => hK _ _ hrel) (fun h => absurd rfl h)
def ST_become (Rel Rel2 : e_I → e_L → Prop) : Prop := ∀ (a1 : Int32) (a2 : Int32) (I : e_I) (L : e_L), Rel I L → ∃ (r : Int32) (I1 : e_I) (I2 : e_I), f_X7_become a1 a2 I = some (r, I1) ∧ f_X8_become a1 a2 I1 = some (r, I2) ∧ Rel2 I2 L
set_option maxRecDepth 100000 in
set_option maxHeartbeats 4000000 in
theorem LC_become {X : e_X} {Q : State → Prop} {N : Nat} {xs : Nat → Int32} {Rel Rel2 : e_I → e_L → Prop} (hC : e_C X cL_law RL 7 (some .boolean) 40 gN) (hX : e_SC X N xs) {x : Int32} (h1 : vp_in (x + 1) N) {a1 : Int32} (e1 : xs (x + 1).toNatClampNeg = a1) (h2 : vp_in (x + 2) N) {a2 : Int32} (e2 : xs (x + 2).toNatClampNeg = a2) (I : e_I) (L : e_L) (hrel0 : Rel I L) (hS : ST_become Rel Rel2) (hK : ∀ (I : e_I) (L : e_L), Rel2 I L → Z X Q 1817 [(0, .ref 4000), (1, .ref 0), (2, .ref 83), (3, .ref 97), (4, .int x)] [] I L) : Z X Q 1685 [(0, .ref 4000), (1, .ref 0), (2, .ref 83), (3, .ref 97), (4, .int x)] [] I L := by
  obtain ⟨r, I1, I2, q7, q8, hrel⟩ := hS a1 a2 I L hrel0
  refine z_aload_n hC dL_law_1685 rfl 1 rfl ?_
  refine z_aload_n hC dL_law_1686 rfl 0 rfl ?_
  refine z_iload hC dL_law_1687 4 rfl ?_
  refine z_iconst (v := 1) hC (by decide) dL_law_1689 ?_
  refine z_iadd hC dL_law_1690 ?_
  refine z_sld hC hX h1 dL_law_1691 ?_
  rw [e1]
  refine z_aload_n hC dL_law_1692 rfl 0 rfl ?_
  refine z_iload hC dL_law_1693 4 rfl ?_
  refine z_iconst (v := 2) hC (by decide) dL_law_1695 ?_
  refine z_iadd hC dL_law_1696 ?_
  refine z_sld hC hX h2 dL_law_1697 ?_
  rw [e2]
  refine zc_iI hC [.int a1, .int a2] [] me_X7_become mlL_170 im_X7_become se_X7_become rfl (by decide) at_0 (ci := 7) (T_X7_become a1 a2 I L _ q7) (by decide) rfl (Nat.le_of_ble_eq_true rfl) dL_law_1698 rfl ?_
  refine z_aload_n hC dL_law_1701 rfl 2 rfl ?_
  refine z_aload_n hC dL_law_1702 rfl 0 rfl ?_
  refine z_iload hC dL_law_1703 4 rfl ?_
  refine z_iconst (v := 1) hC (by decide) dL_law_1705 ?_
  refine z_iadd hC dL_law_1706 ?_
  refine z_sld hC hX h1 dL_law_1707 ?_
  rw [e1]
  refine z_aload_n hC dL_law_1708 rfl 0 rfl ?_
  refine z_iload hC dL_law_1709 4 rfl ?_
  refine z_iconst (v := 2) hC (by decide) dL_law_1711 ?_
  refine z_iadd hC dL_law_1712 ?_
  refine z_sld hC hX h2 dL_law_1713 ?_
  rw [e2]
  refine zc_iI hC [.int a1, .int a2] [.int r] me_X8_become mlL_173 im_X8_become se_X8_become rfl (by decide) at_83 (ci := 8) (T_X8_become a1 a2 I1 L _ q8) (by decide) rfl (Nat.le_of_ble_eq_true rfl) dL_law_1714 rfl ?_
  exact z_icmp_eq (tgt := 1817) hC dL_law_1717 (by decide) (fun _ => hK _ _ hrel) (fun h => absurd rfl h)
def ST_undo (Rel Rel2 : e_I → e_L → Prop) : Prop := ∀ (I : e_I) (L : e_L), Rel I L → ∃ (r : Int32) (I1 : e_I) (I2 : e_I), f_X7_undo I = some (r, I1) ∧ f_X8_undo I1 = some (r, I2) ∧ Rel2 I2 L
set_option maxRecDepth 100000 in
set_option maxHeartbeats 4000000 in
theorem LC_undo {X : e_X} {Q : State → Prop} {N : Nat} {xs : Nat → Int32} {Rel Rel2 : e_I → e_L → Prop} (hC : e_C X cL_law RL 7 (some .boolean) 40 gN) (hX : e_SC X N xs) {x : Int32} (I : e_I) (L : e_L) (hrel0 : Rel I L) (hS : ST_undo Rel Rel2) (hK : ∀ (I : e_I) (L : e_L), Rel2 I L → Z X Q 1817 [(0, .ref 4000), (1, .ref 0), (2, .ref 83), (3, .ref 97), (4, .int x)] [] I L) : Z X Q 1722 [(0, .ref 4000), (1, .ref 0), (2, .ref 83), (3, .ref 97), (4, .int x)] [] I L := by
  obtain ⟨r, I1, I2, q7, q8, hrel⟩ := hS  I L hrel0
  refine z_aload_n hC dL_law_1722 rfl 1 rfl ?_
  refine zc_iI hC [] [] me_X7_undo mlL_174 im_X7_undo se_X7_undo rfl (by decide) at_0 (ci := 7) (T_X7_undo I L _ q7) (by decide) rfl (Nat.le_of_ble_eq_true rfl) dL_law_1723 rfl ?_
  refine z_aload_n hC dL_law_1726 rfl 2 rfl ?_
  refine zc_iI hC [] [.int r] me_X8_undo mlL_177 im_X8_undo se_X8_undo rfl (by decide) at_83 (ci := 8) (T_X8_undo I1 L _ q8) (by decide) rfl (Nat.le_of_ble_eq_true rfl) dL_law_1727 rfl ?_
  exact z_icmp_eq (tgt := 1817) hC dL_law_1730 (by decide) (fun _ => hK _ _ hrel) (fun h => absurd rfl h)
def ST_size (Rel Rel2 : e_I → e_L → Prop) : Prop := ∀ (I : e_I) (L : e_L), Rel I L → ∃ (r : Int32) (I2 : e_I), f_X7_size I = some r ∧ f_X8_size I = some (r, I2) ∧ Rel2 I2 L
set_option maxRecDepth 100000 in
set_option maxHeartbeats 4000000 in
theorem LC_size {X : e_X} {Q : State → Prop} {N : Nat} {xs : Nat → Int32} {Rel Rel2 : e_I → e_L → Prop} (hC : e_C X cL_law RL 7 (some .boolean) 40 gN) (hX : e_SC X N xs) {x : Int32} (I : e_I) (L : e_L) (hrel0 : Rel I L) (hS : ST_size Rel Rel2) (hK : ∀ (I : e_I) (L : e_L), Rel2 I L → Z X Q 1817 [(0, .ref 4000), (1, .ref 0), (2, .ref 83), (3, .ref 97), (4, .int x)] [] I L) : Z X Q 1791 [(0, .ref 4000), (1, .ref 0), (2, .ref 83), (3, .ref 97), (4, .int x)] [] I L := by
  obtain ⟨r, I2, q7, q8, hrel⟩ := hS  I L hrel0
  refine z_aload_n hC dL_law_1791 rfl 1 rfl ?_
  refine zc_i hC [] [] me_X7_size mlL_187 im_X7_size se_X7_size rfl (by decide) at_0 (ci := 7) (T_X7_size I L _ q7) (by decide) rfl (Nat.le_of_ble_eq_true rfl) dL_law_1792 rfl ?_
  refine z_aload_n hC dL_law_1795 rfl 2 rfl ?_
  refine zc_iI hC [] [.int r] me_X8_size mlL_190 im_X8_size se_X8_size rfl (by decide) at_83 (ci := 8) (T_X8_size I L _ q8) (by decide) rfl (Nat.le_of_ble_eq_true rfl) dL_law_1796 rfl ?_
  exact z_icmp_eq (tgt := 1817) hC dL_law_1799 (by decide) (fun _ => hK _ _ hrel) (fun h => absurd rfl h)
def ST_trouble (Rel Rel2 : e_I → e_L → Prop) : Prop := ∀ (I : e_I) (L : e_L), Rel I L → ∃ (r : Int32) (I2 : e_I), f_X7_trouble I = some r ∧ f_X8_trouble I = some (r, I2) ∧ Rel2 I2 L
set_option maxRecDepth 100000 in
set_option maxHeartbeats 4000000 in
theorem LC_trouble {X : e_X} {Q : State → Prop} {N : Nat} {xs : Nat → Int32} {Rel Rel2 : e_I → e_L → Prop} (hC : e_C X cL_law RL 7 (some .boolean) 40 gN) (hX : e_SC X N xs) {x : Int32} (I : e_I) (L : e_L) (hrel0 : Rel I L) (hS : ST_trouble Rel Rel2) (hK : ∀ (I : e_I) (L : e_L), Rel2 I L → Z X Q 1817 [(0, .ref 4000), (1, .ref 0), (2, .ref 83), (3, .ref 97), (4, .int x)] [] I L) : Z X Q 1804 [(0, .ref 4000), (1, .ref 0), (2, .ref 83), (3, .ref 97), (4, .int x)] [] I L := by
  obtain ⟨r, I2, q7, q8, hrel⟩ := hS  I L hrel0
  refine z_aload_n hC dL_law_1804 rfl 1 rfl ?_
  refine zc_i hC [] [] me_X7_trouble mlL_191 im_X7_trouble se_X7_trouble rfl (by decide) at_0 (ci := 7) (T_X7_trouble I L _ q7) (by decide) rfl (Nat.le_of_ble_eq_true rfl) dL_law_1805 rfl ?_
  refine z_aload_n hC dL_law_1808 rfl 2 rfl ?_
  refine zc_iI hC [] [.int r] me_X8_trouble mlL_194 im_X8_trouble se_X8_trouble rfl (by decide) at_83 (ci := 8) (T_X8_trouble I L _ q8) (by decide) rfl (Nat.le_of_ble_eq_true rfl) dL_law_1809 rfl ?_
  exact z_icmp_eq (tgt := 1817) hC dL_law_1812 (by decide) (fun _ => hK _ _ hrel) (fun h => absurd rfl h)
end LZ
def e_Steps (Rel Rel2 : e_I → e_L → Prop) : Prop := ST_feed Rel Rel2 ∧ ST_text Rel Rel2 ∧ ST_fault Rel Rel2 ∧ ST_where Rel Rel2 ∧ ST_about Rel Rel2 ∧ ST_rule Rel Rel2 ∧ ST_batter Rel Rel2 ∧ ST_place Rel Rel2 ∧ ST_coming Rel Rel2 ∧ ST_chance Rel Rel2 ∧ ST_after Rel Rel2 ∧ ST_plain Rel Rel2 ∧ ST_any Rel Rel2 ∧ ST_wise Rel Rel2 ∧ ST_choice Rel Rel2 ∧ ST_chosen Rel Rel2 ∧ ST_breaksEven Rel Rel2 ∧ ST_table Rel Rel2 ∧ ST_worth Rel Rel2 ∧ ST_best Rel Rel2 ∧ ST_bestAt Rel Rel2 ∧ ST_exchanged Rel Rel2 ∧ ST_log Rel Rel2 ∧ ST_added Rel Rel2 ∧ ST_credit Rel Rel2 ∧ ST_all Rel Rel2 ∧ ST_innings Rel Rel2 ∧ ST_event Rel Rel2 ∧ ST_play Rel Rel2 ∧ ST_relieve Rel Rel2 ∧ ST_begin Rel Rel2 ∧ ST_swap Rel Rel2 ∧ ST_lay Rel Rel2 ∧ ST_better Rel Rel2 ∧ ST_shift Rel Rel2 ∧ ST_become Rel Rel2 ∧ ST_undo Rel Rel2 ∧ ST_size Rel Rel2 ∧ ST_trouble Rel Rel2
