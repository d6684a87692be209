def gw_cw (own : String) (index : Nat) (y : MethodName) (cc : ByteArray) (maxL : Nat) (ret : Option FieldType) (hh : List (Nat × Nat × Nat × Nat)) (n : Nat) : Prop := Cond.codeWith y cc maxL ret hh ∈ gw_L ∧ Cond.initialized y.cls ∈ gw_L ∧ (y.cls ≠ "java/lang/invoke/MethodHandle" ∧ y.cls ≠ "java/lang/invoke/VarHandle") ∧ (parseMethodDescriptor y.desc).map (fun d => d.parameters.length) = some n ∧ Cond.methodLink own index y ∈ gw_L ∧ Cond.static y ∈ gw_L
theorem ii_L : Cond.initialized RL ∈ gw_L := gw_in 29 (by decide +kernel) rfl
theorem cst_L_7 : Cond.constantLong RL 7 15 ∈ gw_L := gw_in 166 (by decide +kernel) rfl
theorem cst_L_68 : Cond.constantLong RL 68 1103515245 ∈ gw_L := gw_in 579 (by decide +kernel) rfl
theorem cst_L_70 : Cond.constantLong RL 70 12345 ∈ gw_L := gw_in 580 (by decide +kernel) rfl
theorem cst_L_72 : Cond.constantLong RL 72 2147483647 ∈ gw_L := gw_in 581 (by decide +kernel) rfl
theorem cst_L_74 : Cond.constant RL 74 2147483647 ∈ gw_L := gw_in 582 (by decide +kernel) rfl
theorem cst_L_236 : Cond.constant RL 236 69069 ∈ gw_L := gw_in 713 (by decide +kernel) rfl
theorem cst_L_237 : Cond.constant RL 237 40503 ∈ gw_L := gw_in 714 (by decide +kernel) rfl
theorem cw_X3_drop : Cond.code yX3_drop cX3_drop 5 (some .int) ∈ gw_L := gw_in 424 (by decide +kernel) rfl
theorem cb_L_100 : gw_cv RL 100 yX3_drop cX3_drop 5 (some .int) 2 := ⟨⟨cw_X3_drop, ii_X3, by decide, by decide +kernel, gw_in 421 (by decide +kernel) rfl⟩, gw_in 422 (by decide +kernel) rfl, gw_in 423 (by decide +kernel) rfl⟩
theorem cw_X3_change : Cond.code yX3_change cX3_change 7 (some .int) ∈ gw_L := gw_in 433 (by decide +kernel) rfl
theorem cb_L_103 : gw_cv RL 103 yX3_change cX3_change 7 (some .int) 3 := ⟨⟨cw_X3_change, ii_X3, by decide, by decide +kernel, gw_in 430 (by decide +kernel) rfl⟩, gw_in 431 (by decide +kernel) rfl, gw_in 432 (by decide +kernel) rfl⟩
theorem cw_X3_accept : Cond.code yX3_accept cX3_accept 5 (some .int) ∈ gw_L := gw_in 439 (by decide +kernel) rfl
theorem cb_L_107 : gw_cv RL 107 yX3_accept cX3_accept 5 (some .int) 2 := ⟨⟨cw_X3_accept, ii_X3, by decide, by decide +kernel, gw_in 436 (by decide +kernel) rfl⟩, gw_in 437 (by decide +kernel) rfl, gw_in 438 (by decide +kernel) rfl⟩
theorem cw_X3_leave : Cond.code yX3_leave cX3_leave 6 (some .boolean) ∈ gw_L := gw_in 444 (by decide +kernel) rfl
theorem cb_L_110 : gw_cv RL 110 yX3_leave cX3_leave 6 (some .boolean) 2 := ⟨⟨cw_X3_leave, ii_X3, by decide, by decide +kernel, gw_in 441 (by decide +kernel) rfl⟩, gw_in 442 (by decide +kernel) rfl, gw_in 443 (by decide +kernel) rfl⟩
theorem cw_X3_advance : Cond.code yX3_advance cX3_advance 4 (some .int) ∈ gw_L := gw_in 449 (by decide +kernel) rfl
theorem cb_L_113 : gw_cv RL 113 yX3_advance cX3_advance 4 (some .int) 1 := ⟨⟨cw_X3_advance, ii_X3, by decide, by decide +kernel, gw_in 446 (by decide +kernel) rfl⟩, gw_in 447 (by decide +kernel) rfl, gw_in 448 (by decide +kernel) rfl⟩
theorem cw_X3_runLottery : Cond.code yX3_runLottery cX3_runLottery 4 (some .int) ∈ gw_L := gw_in 462 (by decide +kernel) rfl
theorem cb_L_116 : gw_cv RL 116 yX3_runLottery cX3_runLottery 4 (some .int) 1 := ⟨⟨cw_X3_runLottery, ii_X3, by decide, by decide +kernel, gw_in 459 (by decide +kernel) rfl⟩, gw_in 460 (by decide +kernel) rfl, gw_in 461 (by decide +kernel) rfl⟩
theorem cw_X3_putUp : Cond.code yX3_putUp cX3_putUp 6 (some .int) ∈ gw_L := gw_in 487 (by decide +kernel) rfl
theorem cb_L_119 : gw_cv RL 119 yX3_putUp cX3_putUp 6 (some .int) 2 := ⟨⟨cw_X3_putUp, ii_X3, by decide, by decide +kernel, gw_in 484 (by decide +kernel) rfl⟩, gw_in 485 (by decide +kernel) rfl, gw_in 486 (by decide +kernel) rfl⟩
theorem cw_X3_withdraw : Cond.code yX3_withdraw cX3_withdraw 4 (some .int) ∈ gw_L := gw_in 491 (by decide +kernel) rfl
theorem cb_L_122 : gw_cv RL 122 yX3_withdraw cX3_withdraw 4 (some .int) 1 := ⟨⟨cw_X3_withdraw, ii_X3, by decide, by decide +kernel, gw_in 488 (by decide +kernel) rfl⟩, gw_in 489 (by decide +kernel) rfl, gw_in 490 (by decide +kernel) rfl⟩
theorem cw_X3_runExchange : Cond.code yX3_runExchange cX3_runExchange 4 (some .int) ∈ gw_L := gw_in 495 (by decide +kernel) rfl
theorem cb_L_125 : gw_cv RL 125 yX3_runExchange cX3_runExchange 4 (some .int) 0 := ⟨⟨cw_X3_runExchange, ii_X3, by decide, by decide +kernel, gw_in 492 (by decide +kernel) rfl⟩, gw_in 493 (by decide +kernel) rfl, gw_in 494 (by decide +kernel) rfl⟩
theorem cw_L_requires : Cond.code yL_requires cL_requires 6 (some .int) ∈ gw_L := gw_in 533 (by decide +kernel) rfl
theorem cb_L_131 : gw_cs RL 131 yL_requires cL_requires 6 (some .int) 4 := ⟨⟨cw_L_requires, ii_L, by decide, by decide +kernel, gw_in 531 (by decide +kernel) rfl⟩, gw_in 532 (by decide +kernel) rfl⟩
theorem cw_L_passes : Cond.code yL_passes cL_passes 5 (some .int) ∈ gw_L := gw_in 536 (by decide +kernel) rfl
theorem cb_L_134 : gw_cs RL 134 yL_passes cL_passes 5 (some .int) 5 := ⟨⟨cw_L_passes, ii_L, by decide, by decide +kernel, gw_in 534 (by decide +kernel) rfl⟩, gw_in 535 (by decide +kernel) rfl⟩
theorem cw_L_wishes : Cond.code yL_wishes cL_wishes 5 (some .int) ∈ gw_L := gw_in 551 (by decide +kernel) rfl
theorem cb_L_138 : gw_cs RL 138 yL_wishes cL_wishes 5 (some .int) 3 := ⟨⟨cw_L_wishes, ii_L, by decide, by decide +kernel, gw_in 549 (by decide +kernel) rfl⟩, gw_in 550 (by decide +kernel) rfl⟩
theorem cw_L_asks : Cond.code yL_asks cL_asks 5 (some .int) ∈ gw_L := gw_in 557 (by decide +kernel) rfl
theorem cb_L_142 : gw_cs RL 142 yL_asks cL_asks 5 (some .int) 5 := ⟨⟨cw_L_asks, ii_L, by decide, by decide +kernel, gw_in 555 (by decide +kernel) rfl⟩, gw_in 556 (by decide +kernel) rfl⟩
theorem cw_L_drops : Cond.code yL_drops cL_drops 4 (some .int) ∈ gw_L := gw_in 563 (by decide +kernel) rfl
theorem cb_L_145 : gw_cs RL 145 yL_drops cL_drops 4 (some .int) 4 := ⟨⟨cw_L_drops, ii_L, by decide, by decide +kernel, gw_in 561 (by decide +kernel) rfl⟩, gw_in 562 (by decide +kernel) rfl⟩
theorem cw_L_changes : Cond.code yL_changes cL_changes 6 (some .int) ∈ gw_L := gw_in 569 (by decide +kernel) rfl
theorem cb_L_148 : gw_cs RL 148 yL_changes cL_changes 6 (some .int) 6 := ⟨⟨cw_L_changes, ii_L, by decide, by decide +kernel, gw_in 567 (by decide +kernel) rfl⟩, gw_in 568 (by decide +kernel) rfl⟩
theorem cw_L_has : Cond.code yL_has cL_has 2 (some .boolean) ∈ gw_L := gw_in 172 (by decide +kernel) rfl
theorem cb_L_15 : gw_cs RL 15 yL_has cL_has 2 (some .boolean) 2 := ⟨⟨cw_L_has, ii_L, by decide, by decide +kernel, gw_in 170 (by decide +kernel) rfl⟩, gw_in 171 (by decide +kernel) rfl⟩
theorem cw_L_accepts : Cond.code yL_accepts cL_accepts 5 (some .int) ∈ gw_L := gw_in 572 (by decide +kernel) rfl
theorem cb_L_152 : gw_cs RL 152 yL_accepts cL_accepts 5 (some .int) 5 := ⟨⟨cw_L_accepts, ii_L, by decide, by decide +kernel, gw_in 570 (by decide +kernel) rfl⟩, gw_in 571 (by decide +kernel) rfl⟩
theorem cw_L_goesOn : Cond.code yL_goesOn cL_goesOn 10 (some .int) ∈ gw_L := gw_in 575 (by decide +kernel) rfl
theorem cb_L_155 : gw_cs RL 155 yL_goesOn cL_goesOn 10 (some .int) 5 := ⟨⟨cw_L_goesOn, ii_L, by decide, by decide +kernel, gw_in 573 (by decide +kernel) rfl⟩, gw_in 574 (by decide +kernel) rfl⟩
theorem cw_L_draws : Cond.code yL_draws cL_draws 15 (some .int) ∈ gw_L := gw_in 578 (by decide +kernel) rfl
theorem cb_L_159 : gw_cs RL 159 yL_draws cL_draws 15 (some .int) 5 := ⟨⟨cw_L_draws, ii_L, by decide, by decide +kernel, gw_in 576 (by decide +kernel) rfl⟩, gw_in 577 (by decide +kernel) rfl⟩
theorem cw_L_swaps : Cond.code yL_swaps cL_swaps 9 (some .int) ∈ gw_L := gw_in 585 (by decide +kernel) rfl
theorem cb_L_162 : gw_cs RL 162 yL_swaps cL_swaps 9 (some .int) 4 := ⟨⟨cw_L_swaps, ii_L, by decide, by decide +kernel, gw_in 583 (by decide +kernel) rfl⟩, gw_in 584 (by decide +kernel) rfl⟩
theorem cw_X3_courses : Cond.code yX3_courses cX3_courses 1 (some .int) ∈ gw_L := gw_in 595 (by decide +kernel) rfl
theorem cb_L_166 : gw_cv RL 166 yX3_courses cX3_courses 1 (some .int) 0 := ⟨⟨cw_X3_courses, ii_X3, by decide, by decide +kernel, gw_in 592 (by decide +kernel) rfl⟩, gw_in 593 (by decide +kernel) rfl, gw_in 594 (by decide +kernel) rfl⟩
theorem cw_X3_students : Cond.code yX3_students cX3_students 1 (some .int) ∈ gw_L := gw_in 599 (by decide +kernel) rfl
theorem cb_L_169 : gw_cv RL 169 yX3_students cX3_students 1 (some .int) 0 := ⟨⟨cw_X3_students, ii_X3, by decide, by decide +kernel, gw_in 596 (by decide +kernel) rfl⟩, gw_in 597 (by decide +kernel) rfl, gw_in 598 (by decide +kernel) rfl⟩
theorem cw_X3_day : Cond.code yX3_day cX3_day 1 (some .int) ∈ gw_L := gw_in 603 (by decide +kernel) rfl
theorem cb_L_172 : gw_cv RL 172 yX3_day cX3_day 1 (some .int) 0 := ⟨⟨cw_X3_day, ii_X3, by decide, by decide +kernel, gw_in 600 (by decide +kernel) rfl⟩, gw_in 601 (by decide +kernel) rfl, gw_in 602 (by decide +kernel) rfl⟩
theorem cw_X3_enrolled : Cond.code yX3_enrolled cX3_enrolled 2 (some .int) ∈ gw_L := gw_in 607 (by decide +kernel) rfl
theorem cb_L_175 : gw_cv RL 175 yX3_enrolled cX3_enrolled 2 (some .int) 1 := ⟨⟨cw_X3_enrolled, ii_X3, by decide, by decide +kernel, gw_in 604 (by decide +kernel) rfl⟩, gw_in 605 (by decide +kernel) rfl, gw_in 606 (by decide +kernel) rfl⟩
theorem cw_X3_freeSeats : Cond.code yX3_freeSeats cX3_freeSeats 2 (some .int) ∈ gw_L := gw_in 611 (by decide +kernel) rfl
theorem cb_L_178 : gw_cv RL 178 yX3_freeSeats cX3_freeSeats 2 (some .int) 1 := ⟨⟨cw_X3_freeSeats, ii_X3, by decide, by decide +kernel, gw_in 608 (by decide +kernel) rfl⟩, gw_in 609 (by decide +kernel) rfl, gw_in 610 (by decide +kernel) rfl⟩
theorem cw_X3_level : Cond.code yX3_level cX3_level 2 (some .int) ∈ gw_L := gw_in 615 (by decide +kernel) rfl
theorem cb_L_181 : gw_cv RL 181 yX3_level cX3_level 2 (some .int) 1 := ⟨⟨cw_X3_level, ii_X3, by decide, by decide +kernel, gw_in 612 (by decide +kernel) rfl⟩, gw_in 613 (by decide +kernel) rfl, gw_in 614 (by decide +kernel) rfl⟩
theorem cw_L_level : Cond.code yL_level cL_level 6 (some .int) ∈ gw_L := gw_in 626 (by decide +kernel) rfl
theorem cb_L_184 : gw_cs RL 184 yL_level cL_level 6 (some .int) 2 := ⟨⟨cw_L_level, ii_L, by decide, by decide +kernel, gw_in 624 (by decide +kernel) rfl⟩, gw_in 625 (by decide +kernel) rfl⟩
theorem cw_X3_waiting : Cond.code yX3_waiting cX3_waiting 2 (some .int) ∈ gw_L := gw_in 630 (by decide +kernel) rfl
theorem cb_L_186 : gw_cv RL 186 yX3_waiting cX3_waiting 2 (some .int) 1 := ⟨⟨cw_X3_waiting, ii_X3, by decide, by decide +kernel, gw_in 627 (by decide +kernel) rfl⟩, gw_in 628 (by decide +kernel) rfl, gw_in 629 (by decide +kernel) rfl⟩
theorem cw_X3_waitingAt : Cond.code yX3_waitingAt cX3_waitingAt 3 (some .int) ∈ gw_L := gw_in 634 (by decide +kernel) rfl
theorem cb_L_189 : gw_cv RL 189 yX3_waitingAt cX3_waitingAt 3 (some .int) 2 := ⟨⟨cw_X3_waitingAt, ii_X3, by decide, by decide +kernel, gw_in 631 (by decide +kernel) rfl⟩, gw_in 632 (by decide +kernel) rfl, gw_in 633 (by decide +kernel) rfl⟩
theorem cw_L_worth : Cond.code yL_worth cL_worth 4 (some .int) ∈ gw_L := gw_in 187 (by decide +kernel) rfl
theorem cb_L_19 : gw_cs RL 19 yL_worth cL_worth 4 (some .int) 2 := ⟨⟨cw_L_worth, ii_L, by decide, by decide +kernel, gw_in 185 (by decide +kernel) rfl⟩, gw_in 186 (by decide +kernel) rfl⟩
theorem cw_X3_credits : Cond.code yX3_credits cX3_credits 2 (some .int) ∈ gw_L := gw_in 645 (by decide +kernel) rfl
theorem cb_L_192 : gw_cv RL 192 yX3_credits cX3_credits 2 (some .int) 1 := ⟨⟨cw_X3_credits, ii_X3, by decide, by decide +kernel, gw_in 642 (by decide +kernel) rfl⟩, gw_in 643 (by decide +kernel) rfl, gw_in 644 (by decide +kernel) rfl⟩
theorem cw_X3_wishes : Cond.code yX3_wishes cX3_wishes 2 (some .int) ∈ gw_L := gw_in 649 (by decide +kernel) rfl
theorem cb_L_195 : gw_cv RL 195 yX3_wishes cX3_wishes 2 (some .int) 1 := ⟨⟨cw_X3_wishes, ii_X3, by decide, by decide +kernel, gw_in 646 (by decide +kernel) rfl⟩, gw_in 647 (by decide +kernel) rfl, gw_in 648 (by decide +kernel) rfl⟩
theorem cw_X3_placeUp : Cond.code yX3_placeUp cX3_placeUp 2 (some .int) ∈ gw_L := gw_in 653 (by decide +kernel) rfl
theorem cb_L_197 : gw_cv RL 197 yX3_placeUp cX3_placeUp 2 (some .int) 1 := ⟨⟨cw_X3_placeUp, ii_X3, by decide, by decide +kernel, gw_in 650 (by decide +kernel) rfl⟩, gw_in 651 (by decide +kernel) rfl, gw_in 652 (by decide +kernel) rfl⟩
theorem cw_X3_lotteryNumber : Cond.code yX3_lotteryNumber cX3_lotteryNumber 2 (some .int) ∈ gw_L := gw_in 657 (by decide +kernel) rfl
theorem cb_L_200 : gw_cv RL 200 yX3_lotteryNumber cX3_lotteryNumber 2 (some .int) 1 := ⟨⟨cw_X3_lotteryNumber, ii_X3, by decide, by decide +kernel, gw_in 654 (by decide +kernel) rfl⟩, gw_in 655 (by decide +kernel) rfl, gw_in 656 (by decide +kernel) rfl⟩
theorem cw_X3_pointsTo : Cond.code yX3_pointsTo cX3_pointsTo 3 (some .int) ∈ gw_L := gw_in 661 (by decide +kernel) rfl
theorem cb_L_203 : gw_cv RL 203 yX3_pointsTo cX3_pointsTo 3 (some .int) 1 := ⟨⟨cw_X3_pointsTo, ii_X3, by decide, by decide +kernel, gw_in 658 (by decide +kernel) rfl⟩, gw_in 659 (by decide +kernel) rfl, gw_in 660 (by decide +kernel) rfl⟩
theorem cw_X3_wishAt : Cond.code yX3_wishAt cX3_wishAt 3 (some .int) ∈ gw_L := gw_in 666 (by decide +kernel) rfl
theorem cb_L_206 : gw_cv RL 206 yX3_wishAt cX3_wishAt 3 (some .int) 2 := ⟨⟨cw_X3_wishAt, ii_X3, by decide, by decide +kernel, gw_in 663 (by decide +kernel) rfl⟩, gw_in 664 (by decide +kernel) rfl, gw_in 665 (by decide +kernel) rfl⟩
theorem cw_X3_isEnrolled : Cond.code yX3_isEnrolled cX3_isEnrolled 4 (some .boolean) ∈ gw_L := gw_in 673 (by decide +kernel) rfl
theorem cb_L_209 : gw_cv RL 209 yX3_isEnrolled cX3_isEnrolled 4 (some .boolean) 2 := ⟨⟨cw_X3_isEnrolled, ii_X3, by decide, by decide +kernel, gw_in 670 (by decide +kernel) rfl⟩, gw_in 671 (by decide +kernel) rfl, gw_in 672 (by decide +kernel) rfl⟩
theorem cw_X3_hasPassed : Cond.code yX3_hasPassed cX3_hasPassed 4 (some .boolean) ∈ gw_L := gw_in 677 (by decide +kernel) rfl
theorem cb_L_212 : gw_cv RL 212 yX3_hasPassed cX3_hasPassed 4 (some .boolean) 2 := ⟨⟨cw_X3_hasPassed, ii_X3, by decide, by decide +kernel, gw_in 674 (by decide +kernel) rfl⟩, gw_in 675 (by decide +kernel) rfl, gw_in 676 (by decide +kernel) rfl⟩
theorem cw_X3_missing : Cond.code yX3_missing cX3_missing 4 (some .int) ∈ gw_L := gw_in 681 (by decide +kernel) rfl
theorem cb_L_215 : gw_cv RL 215 yX3_missing cX3_missing 4 (some .int) 2 := ⟨⟨cw_X3_missing, ii_X3, by decide, by decide +kernel, gw_in 678 (by decide +kernel) rfl⟩, gw_in 679 (by decide +kernel) rfl, gw_in 680 (by decide +kernel) rfl⟩
theorem cw_X3_obstacle : Cond.code yX3_obstacle cX3_obstacle 4 (some .int) ∈ gw_L := gw_in 685 (by decide +kernel) rfl
theorem cb_L_218 : gw_cv RL 218 yX3_obstacle cX3_obstacle 4 (some .int) 2 := ⟨⟨cw_X3_obstacle, ii_X3, by decide, by decide +kernel, gw_in 682 (by decide +kernel) rfl⟩, gw_in 683 (by decide +kernel) rfl, gw_in 684 (by decide +kernel) rfl⟩
theorem cw_X3_offerDays : Cond.code yX3_offerDays cX3_offerDays 5 (some .int) ∈ gw_L := gw_in 689 (by decide +kernel) rfl
theorem cb_L_220 : gw_cv RL 220 yX3_offerDays cX3_offerDays 5 (some .int) 2 := ⟨⟨cw_X3_offerDays, ii_X3, by decide, by decide +kernel, gw_in 686 (by decide +kernel) rfl⟩, gw_in 687 (by decide +kernel) rfl, gw_in 688 (by decide +kernel) rfl⟩
theorem cw_X3_requires : Cond.code yX3_requires cX3_requires 5 (some .boolean) ∈ gw_L := gw_in 693 (by decide +kernel) rfl
theorem cb_L_223 : gw_cv RL 223 yX3_requires cX3_requires 5 (some .boolean) 2 := ⟨⟨cw_X3_requires, ii_X3, by decide, by decide +kernel, gw_in 690 (by decide +kernel) rfl⟩, gw_in 691 (by decide +kernel) rfl, gw_in 692 (by decide +kernel) rfl⟩
theorem cw_X3_addCourse : Cond.code yX3_addCourse cX3_addCourse 5 (some .int) ∈ gw_L := gw_in 700 (by decide +kernel) rfl
theorem cb_L_225 : gw_cv RL 225 yX3_addCourse cX3_addCourse 5 (some .int) 3 := ⟨⟨cw_X3_addCourse, ii_X3, by decide, by decide +kernel, gw_in 697 (by decide +kernel) rfl⟩, gw_in 698 (by decide +kernel) rfl, gw_in 699 (by decide +kernel) rfl⟩
theorem cw_X3_addStudent : Cond.code yX3_addStudent cX3_addStudent 4 (some .int) ∈ gw_L := gw_in 707 (by decide +kernel) rfl
theorem cb_L_228 : gw_cv RL 228 yX3_addStudent cX3_addStudent 4 (some .int) 2 := ⟨⟨cw_X3_addStudent, ii_X3, by decide, by decide +kernel, gw_in 704 (by decide +kernel) rfl⟩, gw_in 705 (by decide +kernel) rfl, gw_in 706 (by decide +kernel) rfl⟩
theorem cw_L_inside : Cond.code yL_inside cL_inside 4 (some .int) ∈ gw_L := gw_in 178 (by decide +kernel) rfl
theorem cb_L_23 : gw_cs RL 23 yL_inside cL_inside 4 (some .int) 2 := ⟨⟨cw_L_inside, ii_L, by decide, by decide +kernel, gw_in 176 (by decide +kernel) rfl⟩, gw_in 177 (by decide +kernel) rfl⟩
theorem cw_L_areCourses : Cond.code yL_areCourses cL_areCourses 8 (some .boolean) ∈ gw_L := gw_in 591 (by decide +kernel) rfl
theorem cb_L_232 : gw_cs RL 232 yL_areCourses cL_areCourses 8 (some .boolean) 5 := ⟨⟨cw_L_areCourses, ii_L, by decide, by decide +kernel, gw_in 589 (by decide +kernel) rfl⟩, gw_in 590 (by decide +kernel) rfl⟩
theorem cw_L_adds : Cond.code yL_adds cL_adds 7 (some .boolean) ∈ gw_L := gw_in 696 (by decide +kernel) rfl
theorem cb_L_238 : gw_cs RL 238 yL_adds cL_adds 7 (some .boolean) 6 := ⟨⟨cw_L_adds, ii_L, by decide, by decide +kernel, gw_in 694 (by decide +kernel) rfl⟩, gw_in 695 (by decide +kernel) rfl⟩
theorem cw_L_isOf : Cond.code yL_isOf cL_isOf 6 (some .boolean) ∈ gw_L := gw_in 712 (by decide +kernel) rfl
theorem cb_L_242 : gw_cs RL 242 yL_isOf cL_isOf 6 (some .boolean) 6 := ⟨⟨cw_L_isOf, ii_L, by decide, by decide +kernel, gw_in 710 (by decide +kernel) rfl⟩, gw_in 711 (by decide +kernel) rfl⟩
theorem cw_L_books : Cond.code yL_books cL_books 9 (some .int) ∈ gw_L := gw_in 530 (by decide +kernel) rfl
theorem cb_L_246 : gw_cs RL 246 yL_books cL_books 9 (some .int) 8 := ⟨⟨cw_L_books, ii_L, by decide, by decide +kernel, gw_in 528 (by decide +kernel) rfl⟩, gw_in 529 (by decide +kernel) rfl⟩
theorem cw_L_does_ : gw_cw RL 250 yL_does cL_does 6 (some .int) [(0, 214, 215, 129)] 5 := ⟨gw_in 190 (by decide +kernel) rfl, ii_L, by decide, by decide +kernel, gw_in 188 (by decide +kernel) rfl, gw_in 189 (by decide +kernel) rfl⟩
theorem cw_L_areStudents : Cond.code yL_areStudents cL_areStudents 9 (some .boolean) ∈ gw_L := gw_in 641 (by decide +kernel) rfl
theorem cb_L_254 : gw_cs RL 254 yL_areStudents cL_areStudents 9 (some .boolean) 4 := ⟨⟨cw_L_areStudents, ii_L, by decide, by decide +kernel, gw_in 639 (by decide +kernel) rfl⟩, gw_in 640 (by decide +kernel) rfl⟩
theorem cw_L_areOf : Cond.code yL_areOf cL_areOf 10 (some .boolean) ∈ gw_L := gw_in 669 (by decide +kernel) rfl
theorem cb_L_258 : gw_cs RL 258 yL_areOf cL_areOf 10 (some .boolean) 6 := ⟨⟨cw_L_areOf, ii_L, by decide, by decide +kernel, gw_in 667 (by decide +kernel) rfl⟩, gw_in 668 (by decide +kernel) rfl⟩
theorem cw_L_offers : Cond.code yL_offers cL_offers 2 (some .int) ∈ gw_L := gw_in 169 (by decide +kernel) rfl
theorem cb_L_26 : gw_cs RL 26 yL_offers cL_offers 2 (some .int) 2 := ⟨⟨cw_L_offers, ii_L, by decide, by decide +kernel, gw_in 167 (by decide +kernel) rfl⟩, gw_in 168 (by decide +kernel) rfl⟩
theorem cw_L_many : Cond.code yL_many cL_many 3 (some .int) ∈ gw_L := gw_in 181 (by decide +kernel) rfl
theorem cb_L_29 : gw_cs RL 29 yL_many cL_many 3 (some .int) 1 := ⟨⟨cw_L_many, ii_L, by decide, by decide +kernel, gw_in 179 (by decide +kernel) rfl⟩, gw_in 180 (by decide +kernel) rfl⟩
theorem cw_L_free : Cond.code yL_free cL_free 3 (some .int) ∈ gw_L := gw_in 175 (by decide +kernel) rfl
theorem cb_L_33 : gw_cs RL 33 yL_free cL_free 3 (some .int) 3 := ⟨⟨cw_L_free, ii_L, by decide, by decide +kernel, gw_in 173 (by decide +kernel) rfl⟩, gw_in 174 (by decide +kernel) rfl⟩
theorem cw_L_obstacle : Cond.code yL_obstacle cL_obstacle 7 (some .int) ∈ gw_L := gw_in 184 (by decide +kernel) rfl
theorem cb_L_37 : gw_cs RL 37 yL_obstacle cL_obstacle 7 (some .int) 5 := ⟨⟨cw_L_obstacle, ii_L, by decide, by decide +kernel, gw_in 182 (by decide +kernel) rfl⟩, gw_in 183 (by decide +kernel) rfl⟩
theorem cw_L_without : Cond.code yL_without cL_without 4 (some .long) ∈ gw_L := gw_in 542 (by decide +kernel) rfl
theorem cb_L_41 : gw_cs RL 41 yL_without cL_without 4 (some .long) 2 := ⟨⟨cw_L_without, ii_L, by decide, by decide +kernel, gw_in 540 (by decide +kernel) rfl⟩, gw_in 541 (by decide +kernel) rfl⟩
theorem cw_L_unwishes : Cond.code yL_unwishes cL_unwishes 3 none ∈ gw_L := gw_in 539 (by decide +kernel) rfl
theorem cb_L_45 : gw_cs RL 45 yL_unwishes cL_unwishes 3 none 3 := ⟨⟨cw_L_unwishes, ii_L, by decide, by decide +kernel, gw_in 537 (by decide +kernel) rfl⟩, gw_in 538 (by decide +kernel) rfl⟩
theorem cw_L_leaves : Cond.code yL_leaves cL_leaves 5 none ∈ gw_L := gw_in 548 (by decide +kernel) rfl
theorem cb_L_49 : gw_cs RL 49 yL_leaves cL_leaves 5 none 4 := ⟨⟨cw_L_leaves, ii_L, by decide, by decide +kernel, gw_in 546 (by decide +kernel) rfl⟩, gw_in 547 (by decide +kernel) rfl⟩
theorem cw_L_length : Cond.code yL_length cL_length 5 (some .int) ∈ gw_L := gw_in 554 (by decide +kernel) rfl
theorem cb_L_53 : gw_cs RL 53 yL_length cL_length 5 (some .int) 1 := ⟨⟨cw_L_length, ii_L, by decide, by decide +kernel, gw_in 552 (by decide +kernel) rfl⟩, gw_in 553 (by decide +kernel) rfl⟩
theorem cw_L_enrols : Cond.code yL_enrols cL_enrols 5 none ∈ gw_L := gw_in 560 (by decide +kernel) rfl
theorem cb_L_57 : gw_cs RL 57 yL_enrols cL_enrols 5 none 5 := ⟨⟨cw_L_enrols, ii_L, by decide, by decide +kernel, gw_in 558 (by decide +kernel) rfl⟩, gw_in 559 (by decide +kernel) rfl⟩
theorem cw_L_gives : Cond.code yL_gives cL_gives 3 none ∈ gw_L := gw_in 566 (by decide +kernel) rfl
theorem cb_L_61 : gw_cs RL 61 yL_gives cL_gives 3 none 3 := ⟨⟨cw_L_gives, ii_L, by decide, by decide +kernel, gw_in 564 (by decide +kernel) rfl⟩, gw_in 565 (by decide +kernel) rfl⟩
theorem cw_L_makes : Cond.code yL_makes cL_makes 9 none ∈ gw_L := gw_in 165 (by decide +kernel) rfl
theorem cb_L_64 : gw_cs RL 64 yL_makes cL_makes 9 none 4 := ⟨⟨cw_L_makes, ii_L, by decide, by decide +kernel, gw_in 163 (by decide +kernel) rfl⟩, gw_in 164 (by decide +kernel) rfl⟩
theorem cw_L_points : Cond.code yL_points cL_points 8 (some .int) ∈ gw_L := gw_in 588 (by decide +kernel) rfl
theorem cb_L_75 : gw_cs RL 75 yL_points cL_points 8 (some .int) 4 := ⟨⟨cw_L_points, ii_L, by decide, by decide +kernel, gw_in 586 (by decide +kernel) rfl⟩, gw_in 587 (by decide +kernel) rfl⟩
theorem cw_X3_setSeats : Cond.code yX3_setSeats cX3_setSeats 5 (some .int) ∈ gw_L := gw_in 195 (by decide +kernel) rfl
theorem cb_L_79 : gw_cv RL 79 yX3_setSeats cX3_setSeats 5 (some .int) 2 := ⟨⟨cw_X3_setSeats, ii_X3, by decide, by decide +kernel, gw_in 192 (by decide +kernel) rfl⟩, gw_in 193 (by decide +kernel) rfl, gw_in 194 (by decide +kernel) rfl⟩
theorem cw_X3_addPrerequisite : Cond.code yX3_addPrerequisite cX3_addPrerequisite 5 (some .int) ∈ gw_L := gw_in 362 (by decide +kernel) rfl
theorem cb_L_85 : gw_cv RL 85 yX3_addPrerequisite cX3_addPrerequisite 5 (some .int) 2 := ⟨⟨cw_X3_addPrerequisite, ii_X3, by decide, by decide +kernel, gw_in 359 (by decide +kernel) rfl⟩, gw_in 360 (by decide +kernel) rfl, gw_in 361 (by decide +kernel) rfl⟩
theorem cw_X3_pass : Cond.code yX3_pass cX3_pass 5 (some .int) ∈ gw_L := gw_in 380 (by decide +kernel) rfl
theorem cb_L_88 : gw_cv RL 88 yX3_pass cX3_pass 5 (some .int) 2 := ⟨⟨cw_X3_pass, ii_X3, by decide, by decide +kernel, gw_in 377 (by decide +kernel) rfl⟩, gw_in 378 (by decide +kernel) rfl, gw_in 379 (by decide +kernel) rfl⟩
theorem cw_L_place : Cond.code yL_place cL_place 6 (some .int) ∈ gw_L := gw_in 545 (by decide +kernel) rfl
theorem cb_L_9 : gw_cs RL 9 yL_place cL_place 6 (some .int) 2 := ⟨⟨cw_L_place, ii_L, by decide, by decide +kernel, gw_in 543 (by decide +kernel) rfl⟩, gw_in 544 (by decide +kernel) rfl⟩
theorem cw_X3_wish : Cond.code yX3_wish cX3_wish 5 (some .int) ∈ gw_L := gw_in 398 (by decide +kernel) rfl
theorem cb_L_91 : gw_cv RL 91 yX3_wish cX3_wish 5 (some .int) 2 := ⟨⟨cw_X3_wish, ii_X3, by decide, by decide +kernel, gw_in 395 (by decide +kernel) rfl⟩, gw_in 396 (by decide +kernel) rfl, gw_in 397 (by decide +kernel) rfl⟩
theorem cw_X3_dropWish : Cond.code yX3_dropWish cX3_dropWish 5 (some .int) ∈ gw_L := gw_in 409 (by decide +kernel) rfl
theorem cb_L_94 : gw_cv RL 94 yX3_dropWish cX3_dropWish 5 (some .int) 2 := ⟨⟨cw_X3_dropWish, ii_X3, by decide, by decide +kernel, gw_in 406 (by decide +kernel) rfl⟩, gw_in 407 (by decide +kernel) rfl, gw_in 408 (by decide +kernel) rfl⟩
theorem cw_X3_request : Cond.code yX3_request cX3_request 6 (some .int) ∈ gw_L := gw_in 414 (by decide +kernel) rfl
theorem cb_L_97 : gw_cv RL 97 yX3_request cX3_request 6 (some .int) 2 := ⟨⟨cw_X3_request, ii_X3, by decide, by decide +kernel, gw_in 411 (by decide +kernel) rfl⟩, gw_in 412 (by decide +kernel) rfl, gw_in 413 (by decide +kernel) rfl⟩
theorem cl_L_catch : Cond.classLink RL 129 "java/lang/IllegalStateException" ∈ gw_L := gw_in 191 (by decide +kernel) rfl
theorem ca_IS : Cond.castable "java/lang/IllegalStateException" "java/lang/IllegalStateException" ∈ gw_L := gw_in 304 (by decide +kernel) rfl
abbrev gr_L_many : Room := { frames := 0, cells := 0, slots := 0, locals := 0 }
abbrev gr_L_has : Room := { frames := 0, cells := 0, slots := 0, locals := 0 }
abbrev gr_L_place : Room := { frames := 0, cells := 0, slots := 0, locals := 0 }
abbrev gr_L_length : Room := { frames := 0, cells := 0, slots := 0, locals := 0 }
abbrev gr_L_without : Room := { frames := 1, cells := 0, slots := 0, locals := 25 }
abbrev gr_L_worth : Room := { frames := 1, cells := 0, slots := 0, locals := 21 }
abbrev gr_L_obstacle : Room := { frames := 2, cells := 0, slots := 0, locals := 44 }
abbrev gr_L_offers : Room := { frames := 0, cells := 0, slots := 0, locals := 0 }
abbrev gr_L_inside : Room := { frames := 1, cells := 0, slots := 0, locals := 21 }
abbrev gr_L_free : Room := { frames := 2, cells := 0, slots := 0, locals := 44 }
abbrev gr_L_makes : Room := { frames := 3, cells := 0, slots := 0, locals := 70 }
abbrev gr_L_leaves : Room := { frames := 2, cells := 0, slots := 0, locals := 48 }
abbrev gr_L_unwishes : Room := { frames := 2, cells := 0, slots := 0, locals := 48 }
abbrev gr_L_enrols : Room := { frames := 3, cells := 0, slots := 0, locals := 72 }
abbrev gr_L_gives : Room := { frames := 0, cells := 0, slots := 0, locals := 0 }
abbrev gr_L_requires : Room := { frames := 1, cells := 0, slots := 0, locals := 22 }
abbrev gr_L_passes : Room := { frames := 3, cells := 0, slots := 0, locals := 72 }
abbrev gr_L_wishes : Room := { frames := 1, cells := 0, slots := 0, locals := 25 }
abbrev gr_L_asks : Room := { frames := 4, cells := 0, slots := 0, locals := 96 }
abbrev gr_L_drops : Room := { frames := 2, cells := 0, slots := 0, locals := 44 }
abbrev gr_L_changes : Room := { frames := 4, cells := 0, slots := 0, locals := 96 }
abbrev gr_L_accepts : Room := { frames := 4, cells := 0, slots := 0, locals := 96 }
abbrev gr_L_goesOn : Room := { frames := 4, cells := 0, slots := 0, locals := 98 }
abbrev gr_L_draws : Room := { frames := 4, cells := 0, slots := 0, locals := 96 }
abbrev gr_L_points : Room := { frames := 3, cells := 0, slots := 0, locals := 70 }
abbrev gr_L_swaps : Room := { frames := 4, cells := 1, slots := 8, locals := 97 }
abbrev gr_L_does : Room := { frames := 8, cells := 4, slots := 24, locals := 161 }
abbrev gr_L_books : Room := { frames := 5, cells := 1, slots := 8, locals := 130 }
abbrev gr_L_level : Room := { frames := 1, cells := 0, slots := 0, locals := 21 }
abbrev gr_L_areCourses : Room := { frames := 5, cells := 0, slots := 0, locals := 107 }
abbrev gr_L_areStudents : Room := { frames := 6, cells := 0, slots := 0, locals := 137 }
abbrev gr_L_areOf : Room := { frames := 4, cells := 0, slots := 0, locals := 90 }
abbrev gr_L_adds : Room := { frames := 7, cells := 1, slots := 6, locals := 106 }
abbrev gr_L_isOf : Room := { frames := 1, cells := 0, slots := 0, locals := 25 }
