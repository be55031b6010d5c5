set_option maxRecDepth 100000 in
theorem ok_X0_init : okI yX0_init cX0_init 2 none 1 := ⟨(⟨(lw_gi 77 rfl rfl), (lw_gi 435 rfl rfl), by decide +kernel, by decide +kernel, by decide +kernel⟩ : okC yX0_init cX0_init 2 none 1), (lw_gi 434 rfl rfl), rfl⟩
set_option maxRecDepth 100000 in
theorem ok_X1_init : okI yX1_init cX1_init 4 none 3 := ⟨(⟨(lw_gi 82 rfl rfl), (lw_gi 559 rfl rfl), by decide +kernel, by decide +kernel, by decide +kernel⟩ : okC yX1_init cX1_init 4 none 3), (lw_gi 558 rfl rfl), rfl⟩
set_option maxRecDepth 100000 in
theorem ok_X2_init : okI yX2_init cX2_init 3 none 2 := ⟨(⟨(lw_gi 69 rfl rfl), (lw_gi 282 rfl rfl), by decide +kernel, by decide +kernel, by decide +kernel⟩ : okC yX2_init cX2_init 3 none 2), (lw_gi 281 rfl rfl), rfl⟩
set_option maxRecDepth 100000 in
theorem ok_X2_cleanForOneTick : okV yX2_cleanForOneTick cX2_cleanForOneTick 1 none 0 := ⟨(⟨(lw_gi 69 rfl rfl), (lw_gi 752 rfl rfl), by decide +kernel, by decide +kernel, by decide +kernel⟩ : okC yX2_cleanForOneTick cX2_cleanForOneTick 1 none 0), (lw_gi 751 rfl rfl), (lw_gi 23 rfl rfl)⟩
set_option maxRecDepth 100000 in
theorem ok_X3_init : okI yX3_init cX3_init 5 none 4 := ⟨(⟨(lw_gi 81 rfl rfl), (lw_gi 520 rfl rfl), by decide +kernel, by decide +kernel, by decide +kernel⟩ : okC yX3_init cX3_init 5 none 4), (lw_gi 519 rfl rfl), rfl⟩
set_option maxRecDepth 100000 in
theorem ok_X3_isIn : okV yX3_isIn cX3_isIn 2 (some .boolean) 1 := ⟨(⟨(lw_gi 81 rfl rfl), (lw_gi 709 rfl rfl), by decide +kernel, by decide +kernel, by decide +kernel⟩ : okC yX3_isIn cX3_isIn 2 (some .boolean) 1), (lw_gi 708 rfl rfl), (lw_gi 16 rfl rfl)⟩
set_option maxRecDepth 100000 in
theorem ok_X3_waitsFor : okV yX3_waitsFor cX3_waitsFor 2 (some .boolean) 1 := ⟨(⟨(lw_gi 81 rfl rfl), (lw_gi 673 rfl rfl), by decide +kernel, by decide +kernel, by decide +kernel⟩ : okC yX3_waitsFor cX3_waitsFor 2 (some .boolean) 1), (lw_gi 672 rfl rfl), (lw_gi 14 rfl rfl)⟩
set_option maxRecDepth 100000 in
theorem ok_X4_init : okI yX4_init cX4_init 2 none 0 := ⟨(⟨(lw_gi 59 rfl rfl), (lw_gi 89 rfl rfl), by decide +kernel, by decide +kernel, by decide +kernel⟩ : okC yX4_init cX4_init 2 none 0), (lw_gi 88 rfl rfl), rfl⟩
set_option maxRecDepth 100000 in
theorem ok_X4_addLift : okV yX4_addLift cX4_addLift 3 (some .int) 1 := ⟨(⟨(lw_gi 59 rfl rfl), (lw_gi 189 rfl rfl), by decide +kernel, by decide +kernel, by decide +kernel⟩ : okC yX4_addLift cX4_addLift 3 (some .int) 1), (lw_gi 187 rfl rfl), (lw_gi 188 rfl rfl)⟩
set_option maxRecDepth 100000 in
theorem ok_X4_setTenant : okV yX4_setTenant cX4_setTenant 4 (some .int) 2 := ⟨(⟨(lw_gi 59 rfl rfl), (lw_gi 400 rfl rfl), by decide +kernel, by decide +kernel, by decide +kernel⟩ : okC yX4_setTenant cX4_setTenant 4 (some .int) 2), (lw_gi 398 rfl rfl), (lw_gi 399 rfl rfl)⟩
set_option maxRecDepth 100000 in
theorem ok_X4_setHours : okV yX4_setHours cX4_setHours 4 (some .int) 3 := ⟨(⟨(lw_gi 59 rfl rfl), (lw_gi 421 rfl rfl), by decide +kernel, by decide +kernel, by decide +kernel⟩ : okC yX4_setHours cX4_setHours 4 (some .int) 3), (lw_gi 419 rfl rfl), (lw_gi 420 rfl rfl)⟩
set_option maxRecDepth 100000 in
theorem ok_X4_addBadge : okV yX4_addBadge cX4_addBadge 3 (some .int) 1 := ⟨(⟨(lw_gi 59 rfl rfl), (lw_gi 429 rfl rfl), by decide +kernel, by decide +kernel, by decide +kernel⟩ : okC yX4_addBadge cX4_addBadge 3 (some .int) 1), (lw_gi 427 rfl rfl), (lw_gi 428 rfl rfl)⟩
set_option maxRecDepth 100000 in
theorem ok_X4_setRevoked : okV yX4_setRevoked cX4_setRevoked 5 (some .boolean) 2 := ⟨(⟨(lw_gi 59 rfl rfl), (lw_gi 452 rfl rfl), by decide +kernel, by decide +kernel, by decide +kernel⟩ : okC yX4_setRevoked cX4_setRevoked 5 (some .boolean) 2), (lw_gi 450 rfl rfl), (lw_gi 451 rfl rfl)⟩
set_option maxRecDepth 100000 in
theorem ok_X4_reason : okV yX4_reason cX4_reason 4 (some .char) 2 := ⟨(⟨(lw_gi 59 rfl rfl), (lw_gi 478 rfl rfl), by decide +kernel, by decide +kernel, by decide +kernel⟩ : okC yX4_reason cX4_reason 4 (some .char) 2), (lw_gi 476 rfl rfl), (lw_gi 477 rfl rfl)⟩
set_option maxRecDepth 100000 in
theorem ok_X4_call : okV yX4_call cX4_call 6 (some .int) 3 := ⟨(⟨(lw_gi 59 rfl rfl), (lw_gi 493 rfl rfl), by decide +kernel, by decide +kernel, by decide +kernel⟩ : okC yX4_call cX4_call 6 (some .int) 3), (lw_gi 491 rfl rfl), (lw_gi 492 rfl rfl)⟩
set_option maxRecDepth 100000 in
theorem ok_X4_state : okV yX4_state cX4_state 2 (some .char) 1 := ⟨(⟨(lw_gi 59 rfl rfl), (lw_gi 591 rfl rfl), by decide +kernel, by decide +kernel, by decide +kernel⟩ : okC yX4_state cX4_state 2 (some .char) 1), (lw_gi 589 rfl rfl), (lw_gi 590 rfl rfl)⟩
set_option maxRecDepth 100000 in
theorem ok_X4_floorOf : okV yX4_floorOf cX4_floorOf 3 (some .int) 1 := ⟨(⟨(lw_gi 59 rfl rfl), (lw_gi 603 rfl rfl), by decide +kernel, by decide +kernel, by decide +kernel⟩ : okC yX4_floorOf cX4_floorOf 3 (some .int) 1), (lw_gi 601 rfl rfl), (lw_gi 602 rfl rfl)⟩
set_option maxRecDepth 100000 in
theorem ok_X4_aim : okV yX4_aim cX4_aim 2 (some .int) 1 := ⟨(⟨(lw_gi 59 rfl rfl), (lw_gi 610 rfl rfl), by decide +kernel, by decide +kernel, by decide +kernel⟩ : okC yX4_aim cX4_aim 2 (some .int) 1), (lw_gi 608 rfl rfl), (lw_gi 609 rfl rfl)⟩
set_option maxRecDepth 100000 in
theorem ok_X4_liftOf : okV yX4_liftOf cX4_liftOf 3 (some .int) 1 := ⟨(⟨(lw_gi 59 rfl rfl), (lw_gi 618 rfl rfl), by decide +kernel, by decide +kernel, by decide +kernel⟩ : okC yX4_liftOf cX4_liftOf 3 (some .int) 1), (lw_gi 616 rfl rfl), (lw_gi 617 rfl rfl)⟩
set_option maxRecDepth 100000 in
theorem ok_X4_waited : okV yX4_waited cX4_waited 2 (some .int) 1 := ⟨(⟨(lw_gi 59 rfl rfl), (lw_gi 641 rfl rfl), by decide +kernel, by decide +kernel, by decide +kernel⟩ : okC yX4_waited cX4_waited 2 (some .int) 1), (lw_gi 639 rfl rfl), (lw_gi 640 rfl rfl)⟩
set_option maxRecDepth 100000 in
theorem ok_X4_waitedByLog : okV yX4_waitedByLog cX4_waitedByLog 2 (some .int) 1 := ⟨(⟨(lw_gi 59 rfl rfl), (lw_gi 648 rfl rfl), by decide +kernel, by decide +kernel, by decide +kernel⟩ : okC yX4_waitedByLog cX4_waitedByLog 2 (some .int) 1), (lw_gi 646 rfl rfl), (lw_gi 647 rfl rfl)⟩
set_option maxRecDepth 100000 in
theorem ok_X4_entries : okV yX4_entries cX4_entries 1 (some .int) 0 := ⟨(⟨(lw_gi 59 rfl rfl), (lw_gi 160 rfl rfl), by decide +kernel, by decide +kernel, by decide +kernel⟩ : okC yX4_entries cX4_entries 1 (some .int) 0), (lw_gi 158 rfl rfl), (lw_gi 159 rfl rfl)⟩
set_option maxRecDepth 100000 in
theorem ok_X4_callOff : okV yX4_callOff cX4_callOff 3 (some .int) 1 := ⟨(⟨(lw_gi 59 rfl rfl), (lw_gi 659 rfl rfl), by decide +kernel, by decide +kernel, by decide +kernel⟩ : okC yX4_callOff cX4_callOff 3 (some .int) 1), (lw_gi 657 rfl rfl), (lw_gi 658 rfl rfl)⟩
set_option maxRecDepth 100000 in
theorem ok_X4_service : okV yX4_service cX4_service 2 (some .char) 1 := ⟨(⟨(lw_gi 59 rfl rfl), (lw_gi 680 rfl rfl), by decide +kernel, by decide +kernel, by decide +kernel⟩ : okC yX4_service cX4_service 2 (some .char) 1), (lw_gi 678 rfl rfl), (lw_gi 679 rfl rfl)⟩
set_option maxRecDepth 100000 in
theorem ok_X4_floorOfLift : okV yX4_floorOfLift cX4_floorOfLift 2 (some .int) 1 := ⟨(⟨(lw_gi 59 rfl rfl), (lw_gi 687 rfl rfl), by decide +kernel, by decide +kernel, by decide +kernel⟩ : okC yX4_floorOfLift cX4_floorOfLift 2 (some .int) 1), (lw_gi 685 rfl rfl), (lw_gi 686 rfl rfl)⟩
set_option maxRecDepth 100000 in
theorem ok_X4_isUp : okV yX4_isUp cX4_isUp 2 (some .boolean) 1 := ⟨(⟨(lw_gi 59 rfl rfl), (lw_gi 694 rfl rfl), by decide +kernel, by decide +kernel, by decide +kernel⟩ : okC yX4_isUp cX4_isUp 2 (some .boolean) 1), (lw_gi 692 rfl rfl), (lw_gi 693 rfl rfl)⟩
set_option maxRecDepth 100000 in
theorem ok_X4_aboard : okV yX4_aboard cX4_aboard 2 (some .int) 1 := ⟨(⟨(lw_gi 59 rfl rfl), (lw_gi 701 rfl rfl), by decide +kernel, by decide +kernel, by decide +kernel⟩ : okC yX4_aboard cX4_aboard 2 (some .int) 1), (lw_gi 699 rfl rfl), (lw_gi 700 rfl rfl)⟩
set_option maxRecDepth 100000 in
theorem ok_X4_score : okV yX4_score cX4_score 4 (some .int) 2 := ⟨(⟨(lw_gi 59 rfl rfl), (lw_gi 716 rfl rfl), by decide +kernel, by decide +kernel, by decide +kernel⟩ : okC yX4_score cX4_score 4 (some .int) 2), (lw_gi 714 rfl rfl), (lw_gi 715 rfl rfl)⟩
set_option maxRecDepth 100000 in
theorem ok_X4_pass : okV yX4_pass cX4_pass 4 (some .int) 1 := ⟨(⟨(lw_gi 59 rfl rfl), (lw_gi 723 rfl rfl), by decide +kernel, by decide +kernel, by decide +kernel⟩ : okC yX4_pass cX4_pass 4 (some .int) 1), (lw_gi 721 rfl rfl), (lw_gi 722 rfl rfl)⟩
set_option maxRecDepth 100000 in
theorem ok_X4_time : okV yX4_time cX4_time 1 (some .int) 0 := ⟨(⟨(lw_gi 59 rfl rfl), (lw_gi 168 rfl rfl), by decide +kernel, by decide +kernel, by decide +kernel⟩ : okC yX4_time cX4_time 1 (some .int) 0), (lw_gi 166 rfl rfl), (lw_gi 167 rfl rfl)⟩
set_option maxRecDepth 100000 in
theorem ok_X4_alarm : okV yX4_alarm cX4_alarm 2 (some .int) 1 := ⟨(⟨(lw_gi 59 rfl rfl), (lw_gi 804 rfl rfl), by decide +kernel, by decide +kernel, by decide +kernel⟩ : okC yX4_alarm cX4_alarm 2 (some .int) 1), (lw_gi 802 rfl rfl), (lw_gi 803 rfl rfl)⟩
set_option maxRecDepth 100000 in
theorem ok_X4_isAlarm : okV yX4_isAlarm cX4_isAlarm 1 (some .boolean) 0 := ⟨(⟨(lw_gi 59 rfl rfl), (lw_gi 172 rfl rfl), by decide +kernel, by decide +kernel, by decide +kernel⟩ : okC yX4_isAlarm cX4_isAlarm 1 (some .boolean) 0), (lw_gi 170 rfl rfl), (lw_gi 171 rfl rfl)⟩
set_option maxRecDepth 100000 in
theorem ok_X4_turn : okV yX4_turn cX4_turn 2 (some .int) 0 := ⟨(⟨(lw_gi 59 rfl rfl), (lw_gi 816 rfl rfl), by decide +kernel, by decide +kernel, by decide +kernel⟩ : okC yX4_turn cX4_turn 2 (some .int) 0), (lw_gi 814 rfl rfl), (lw_gi 815 rfl rfl)⟩
set_option maxRecDepth 100000 in
theorem ok_X4_opened : okV yX4_opened cX4_opened 1 (some .int) 0 := ⟨(⟨(lw_gi 59 rfl rfl), (lw_gi 176 rfl rfl), by decide +kernel, by decide +kernel, by decide +kernel⟩ : okC yX4_opened cX4_opened 1 (some .int) 0), (lw_gi 174 rfl rfl), (lw_gi 175 rfl rfl)⟩
set_option maxRecDepth 100000 in
theorem ok_X4_refused : okV yX4_refused cX4_refused 1 (some .int) 0 := ⟨(⟨(lw_gi 59 rfl rfl), (lw_gi 180 rfl rfl), by decide +kernel, by decide +kernel, by decide +kernel⟩ : okC yX4_refused cX4_refused 1 (some .int) 0), (lw_gi 178 rfl rfl), (lw_gi 179 rfl rfl)⟩
set_option maxRecDepth 100000 in
theorem ok_X4_doneShare : okV yX4_doneShare cX4_doneShare 2 (some .float) 0 := ⟨(⟨(lw_gi 59 rfl rfl), (lw_gi 838 rfl rfl), by decide +kernel, by decide +kernel, by decide +kernel⟩ : okC yX4_doneShare cX4_doneShare 2 (some .float) 0), (lw_gi 836 rfl rfl), (lw_gi 837 rfl rfl)⟩
set_option maxRecDepth 100000 in
theorem ok_X4_meanWait : okV yX4_meanWait cX4_meanWait 3 (some .double) 0 := ⟨(⟨(lw_gi 59 rfl rfl), (lw_gi 848 rfl rfl), by decide +kernel, by decide +kernel, by decide +kernel⟩ : okC yX4_meanWait cX4_meanWait 3 (some .double) 0), (lw_gi 846 rfl rfl), (lw_gi 847 rfl rfl)⟩
set_option maxRecDepth 100000 in
theorem ok_X4_badgeNumbered : okV yX4_badgeNumbered cX4_badgeNumbered 2 (some (.object "LiftDesk$Badge")) 1 := ⟨(⟨(lw_gi 59 rfl rfl), (lw_gi 456 rfl rfl), by decide +kernel, by decide +kernel, by decide +kernel⟩ : okC yX4_badgeNumbered cX4_badgeNumbered 2 (some (.object "LiftDesk$Badge")) 1), (lw_gi 455 rfl rfl), (lw_gi 4 rfl rfl)⟩
set_option maxRecDepth 100000 in
theorem ok_X4_riderNumbered : okV yX4_riderNumbered cX4_riderNumbered 2 (some (.object "LiftDesk$Rider")) 1 := ⟨(⟨(lw_gi 59 rfl rfl), (lw_gi 595 rfl rfl), by decide +kernel, by decide +kernel, by decide +kernel⟩ : okC yX4_riderNumbered cX4_riderNumbered 2 (some (.object "LiftDesk$Rider")) 1), (lw_gi 594 rfl rfl), (lw_gi 10 rfl rfl)⟩
set_option maxRecDepth 100000 in
theorem ok_X4_liftNumbered : okV yX4_liftNumbered cX4_liftNumbered 2 (some (.object "LiftDesk$Lift")) 1 := ⟨(⟨(lw_gi 59 rfl rfl), (lw_gi 663 rfl rfl), by decide +kernel, by decide +kernel, by decide +kernel⟩ : okC yX4_liftNumbered cX4_liftNumbered 2 (some (.object "LiftDesk$Lift")) 1), (lw_gi 662 rfl rfl), (lw_gi 12 rfl rfl)⟩
set_option maxRecDepth 100000 in
theorem ok_X4_checkFloor : okS yX4_checkFloor cX4_checkFloor 1 none 1 := ⟨(⟨(lw_gi 59 rfl rfl), (lw_gi 481 rfl rfl), by decide +kernel, by decide +kernel, by decide +kernel⟩ : okC yX4_checkFloor cX4_checkFloor 1 none 1), (lw_gi 480 rfl rfl)⟩
set_option maxRecDepth 100000 in
theorem ok_X4_whyNot : okV yX4_whyNot cX4_whyNot 4 (some .char) 2 := ⟨(⟨(lw_gi 59 rfl rfl), (lw_gi 485 rfl rfl), by decide +kernel, by decide +kernel, by decide +kernel⟩ : okC yX4_whyNot cX4_whyNot 4 (some .char) 2), (lw_gi 484 rfl rfl), (lw_gi 5 rfl rfl)⟩
set_option maxRecDepth 100000 in
theorem ok_X4_hasRider : okV yX4_hasRider cX4_hasRider 3 (some .boolean) 1 := ⟨(⟨(lw_gi 59 rfl rfl), (lw_gi 514 rfl rfl), by decide +kernel, by decide +kernel, by decide +kernel⟩ : okC yX4_hasRider cX4_hasRider 3 (some .boolean) 1), (lw_gi 513 rfl rfl), (lw_gi 6 rfl rfl)⟩
set_option maxRecDepth 100000 in
theorem ok_X4_countAboard : okV yX4_countAboard cX4_countAboard 4 (some .int) 1 := ⟨(⟨(lw_gi 59 rfl rfl), (lw_gi 705 rfl rfl), by decide +kernel, by decide +kernel, by decide +kernel⟩ : okC yX4_countAboard cX4_countAboard 4 (some .int) 1), (lw_gi 704 rfl rfl), (lw_gi 15 rfl rfl)⟩
set_option maxRecDepth 100000 in
theorem ok_X4_hasRoom : okV yX4_hasRoom cX4_hasRoom 2 (some .boolean) 1 := ⟨(⟨(lw_gi 59 rfl rfl), (lw_gi 777 rfl rfl), by decide +kernel, by decide +kernel, by decide +kernel⟩ : okC yX4_hasRoom cX4_hasRoom 2 (some .boolean) 1), (lw_gi 776 rfl rfl), (lw_gi 28 rfl rfl)⟩
set_option maxRecDepth 100000 in
theorem ok_X4_note : okV yX4_note cX4_note 2 none 1 := ⟨(⟨(lw_gi 59 rfl rfl), (lw_gi 554 rfl rfl), by decide +kernel, by decide +kernel, by decide +kernel⟩ : okC yX4_note cX4_note 2 none 1), (lw_gi 553 rfl rfl), (lw_gi 7 rfl rfl)⟩
set_option maxRecDepth 100000 in
theorem ok_X4_ticksByLog : okV yX4_ticksByLog cX4_ticksByLog 5 (some .int) 1 := ⟨(⟨(lw_gi 59 rfl rfl), (lw_gi 652 rfl rfl), by decide +kernel, by decide +kernel, by decide +kernel⟩ : okC yX4_ticksByLog cX4_ticksByLog 5 (some .int) 1), (lw_gi 651 rfl rfl), (lw_gi 11 rfl rfl)⟩
set_option maxRecDepth 100000 in
theorem ok_X4_goAboard : okV yX4_goAboard cX4_goAboard 2 none 1 := ⟨(⟨(lw_gi 59 rfl rfl), (lw_gi 781 rfl rfl), by decide +kernel, by decide +kernel, by decide +kernel⟩ : okC yX4_goAboard cX4_goAboard 2 none 1), (lw_gi 780 rfl rfl), (lw_gi 29 rfl rfl)⟩
set_option maxRecDepth 100000 in
theorem ok_X4_finish : okV yX4_finish cX4_finish 3 none 2 := ⟨(⟨(lw_gi 59 rfl rfl), (lw_gi 769 rfl rfl), by decide +kernel, by decide +kernel, by decide +kernel⟩ : okC yX4_finish cX4_finish 3 none 2), (lw_gi 768 rfl rfl), (lw_gi 26 rfl rfl)⟩
set_option maxRecDepth 100000 in
theorem ok_X4_scoreOf : okV yX4_scoreOf cX4_scoreOf 5 (some .int) 2 := ⟨(⟨(lw_gi 59 rfl rfl), (lw_gi 581 rfl rfl), by decide +kernel, by decide +kernel, by decide +kernel⟩ : okC yX4_scoreOf cX4_scoreOf 5 (some .int) 2), (lw_gi 580 rfl rfl), (lw_gi 9 rfl rfl)⟩
set_option maxRecDepth 100000 in
theorem ok_X4_giveLift : okV yX4_giveLift cX4_giveLift 7 none 1 := ⟨(⟨(lw_gi 59 rfl rfl), (lw_gi 577 rfl rfl), by decide +kernel, by decide +kernel, by decide +kernel⟩ : okC yX4_giveLift cX4_giveLift 7 none 1), (lw_gi 576 rfl rfl), (lw_gi 8 rfl rfl)⟩
set_option maxRecDepth 100000 in
theorem ok_X4_giveLiftsToAll : okV yX4_giveLiftsToAll cX4_giveLiftsToAll 3 none 0 := ⟨(⟨(lw_gi 59 rfl rfl), (lw_gi 744 rfl rfl), by decide +kernel, by decide +kernel, by decide +kernel⟩ : okC yX4_giveLiftsToAll cX4_giveLiftsToAll 3 none 0), (lw_gi 743 rfl rfl), (lw_gi 21 rfl rfl)⟩
set_option maxRecDepth 100000 in
theorem ok_X4_giveLiftsInTurn : okV yX4_giveLiftsInTurn cX4_giveLiftsInTurn 4 none 0 := ⟨(⟨(lw_gi 59 rfl rfl), (lw_gi 732 rfl rfl), by decide +kernel, by decide +kernel, by decide +kernel⟩ : okC yX4_giveLiftsInTurn cX4_giveLiftsInTurn 4 none 0), (lw_gi 731 rfl rfl), (lw_gi 18 rfl rfl)⟩
set_option maxRecDepth 100000 in
theorem ok_X4_loseLift : okV yX4_loseLift cX4_loseLift 5 (some .int) 1 := ⟨(⟨(lw_gi 59 rfl rfl), (lw_gi 669 rfl rfl), by decide +kernel, by decide +kernel, by decide +kernel⟩ : okC yX4_loseLift cX4_loseLift 5 (some .int) 1), (lw_gi 668 rfl rfl), (lw_gi 13 rfl rfl)⟩
set_option maxRecDepth 100000 in
theorem ok_X4_passOneTick : okV yX4_passOneTick cX4_passOneTick 2 none 0 := ⟨(⟨(lw_gi 59 rfl rfl), (lw_gi 728 rfl rfl), by decide +kernel, by decide +kernel, by decide +kernel⟩ : okC yX4_passOneTick cX4_passOneTick 2 none 0), (lw_gi 727 rfl rfl), (lw_gi 17 rfl rfl)⟩
set_option maxRecDepth 100000 in
theorem ok_X4_countWaiting : okV yX4_countWaiting cX4_countWaiting 3 none 0 := ⟨(⟨(lw_gi 59 rfl rfl), (lw_gi 793 rfl rfl), by decide +kernel, by decide +kernel, by decide +kernel⟩ : okC yX4_countWaiting cX4_countWaiting 3 none 0), (lw_gi 792 rfl rfl), (lw_gi 32 rfl rfl)⟩
set_option maxRecDepth 100000 in
theorem ok_X4_runLift : okV yX4_runLift cX4_runLift 4 none 1 := ⟨(⟨(lw_gi 59 rfl rfl), (lw_gi 748 rfl rfl), by decide +kernel, by decide +kernel, by decide +kernel⟩ : okC yX4_runLift cX4_runLift 4 none 1), (lw_gi 747 rfl rfl), (lw_gi 22 rfl rfl)⟩
set_option maxRecDepth 100000 in
theorem ok_X4_letOut : okV yX4_letOut cX4_letOut 5 (some .boolean) 1 := ⟨(⟨(lw_gi 59 rfl rfl), (lw_gi 756 rfl rfl), by decide +kernel, by decide +kernel, by decide +kernel⟩ : okC yX4_letOut cX4_letOut 5 (some .boolean) 1), (lw_gi 755 rfl rfl), (lw_gi 24 rfl rfl)⟩
set_option maxRecDepth 100000 in
theorem ok_X4_letIn : okV yX4_letIn cX4_letIn 5 (some .boolean) 1 := ⟨(⟨(lw_gi 59 rfl rfl), (lw_gi 773 rfl rfl), by decide +kernel, by decide +kernel, by decide +kernel⟩ : okC yX4_letIn cX4_letIn 5 (some .boolean) 1), (lw_gi 772 rfl rfl), (lw_gi 27 rfl rfl)⟩
set_option maxRecDepth 100000 in
theorem ok_X4_move : okV yX4_move cX4_move 4 none 1 := ⟨(⟨(lw_gi 59 rfl rfl), (lw_gi 785 rfl rfl), by decide +kernel, by decide +kernel, by decide +kernel⟩ : okC yX4_move cX4_move 4 none 1), (lw_gi 784 rfl rfl), (lw_gi 30 rfl rfl)⟩
set_option maxRecDepth 100000 in
theorem ok_X4_hasAimTowards : okV yX4_hasAimTowards cX4_hasAimTowards 6 (some .boolean) 3 := ⟨(⟨(lw_gi 59 rfl rfl), (lw_gi 789 rfl rfl), by decide +kernel, by decide +kernel, by decide +kernel⟩ : okC yX4_hasAimTowards cX4_hasAimTowards 6 (some .boolean) 3), (lw_gi 788 rfl rfl), (lw_gi 31 rfl rfl)⟩
set_option maxRecDepth 100000 in
theorem ok_X4_sendAllToLobby : okV yX4_sendAllToLobby cX4_sendAllToLobby 3 none 0 := ⟨(⟨(lw_gi 59 rfl rfl), (lw_gi 809 rfl rfl), by decide +kernel, by decide +kernel, by decide +kernel⟩ : okC yX4_sendAllToLobby cX4_sendAllToLobby 3 none 0), (lw_gi 808 rfl rfl), (lw_gi 33 rfl rfl)⟩
set_option maxRecDepth 100000 in
theorem ok_X4_floorInTurn : okV yX4_floorInTurn cX4_floorInTurn 2 (some .int) 0 := ⟨(⟨(lw_gi 59 rfl rfl), (lw_gi 736 rfl rfl), by decide +kernel, by decide +kernel, by decide +kernel⟩ : okC yX4_floorInTurn cX4_floorInTurn 2 (some .int) 0), (lw_gi 735 rfl rfl), (lw_gi 19 rfl rfl)⟩
set_option maxRecDepth 100000 in
theorem ok_X4_isWaitedOn : okV yX4_isWaitedOn cX4_isWaitedOn 4 (some .boolean) 1 := ⟨(⟨(lw_gi 59 rfl rfl), (lw_gi 740 rfl rfl), by decide +kernel, by decide +kernel, by decide +kernel⟩ : okC yX4_isWaitedOn cX4_isWaitedOn 4 (some .boolean) 1), (lw_gi 739 rfl rfl), (lw_gi 20 rfl rfl)⟩
set_option maxRecDepth 100000 in
theorem ok_X5_thrown : okV yX5_thrown cX5_thrown 1 (some .int) 0 := ⟨(⟨(lw_gi 63 rfl rfl), (lw_gi 852 rfl rfl), by decide +kernel, by decide +kernel, by decide +kernel⟩ : okC yX5_thrown cX5_thrown 1 (some .int) 0), (lw_gi 850 rfl rfl), (lw_gi 851 rfl rfl)⟩
set_option maxRecDepth 100000 in
theorem ok_X5_fails : okV yX5_fails cX5_fails 2 (some .int) 1 := ⟨(⟨(lw_gi 63 rfl rfl), (lw_gi 956 rfl rfl), by decide +kernel, by decide +kernel, by decide +kernel⟩ : okC yX5_fails cX5_fails 2 (some .int) 1), (lw_gi 955 rfl rfl), (lw_gi 34 rfl rfl)⟩
set_option maxRecDepth 100000 in
theorem ok_X5_isWrong : okV yX5_isWrong cX5_isWrong 2 (some .boolean) 1 := ⟨(⟨(lw_gi 63 rfl rfl), (lw_gi 980 rfl rfl), by decide +kernel, by decide +kernel, by decide +kernel⟩ : okC yX5_isWrong cX5_isWrong 2 (some .boolean) 1), (lw_gi 979 rfl rfl), (lw_gi 36 rfl rfl)⟩
set_option maxRecDepth 100000 in
theorem ok_X5_isBetween : okS yX5_isBetween cX5_isBetween 3 (some .boolean) 3 := ⟨(⟨(lw_gi 63 rfl rfl), (lw_gi 952 rfl rfl), by decide +kernel, by decide +kernel, by decide +kernel⟩ : okC yX5_isBetween cX5_isBetween 3 (some .boolean) 3), (lw_gi 951 rfl rfl)⟩
set_option maxRecDepth 100000 in
theorem ok_X5_isFloor : okS yX5_isFloor cX5_isFloor 1 (some .boolean) 1 := ⟨(⟨(lw_gi 63 rfl rfl), (lw_gi 987 rfl rfl), by decide +kernel, by decide +kernel, by decide +kernel⟩ : okC yX5_isFloor cX5_isFloor 1 (some .boolean) 1), (lw_gi 986 rfl rfl)⟩
set_option maxRecDepth 100000 in
theorem ok_X5_init : okI yX5_init cX5_init 2 none 0 := ⟨(⟨(lw_gi 63 rfl rfl), (lw_gi 857 rfl rfl), by decide +kernel, by decide +kernel, by decide +kernel⟩ : okC yX5_init cX5_init 2 none 0), (lw_gi 856 rfl rfl), rfl⟩
set_option maxRecDepth 100000 in
theorem ok_X5_isBadge : okV yX5_isBadge cX5_isBadge 2 (some .boolean) 1 := ⟨(⟨(lw_gi 63 rfl rfl), (lw_gi 976 rfl rfl), by decide +kernel, by decide +kernel, by decide +kernel⟩ : okC yX5_isBadge cX5_isBadge 2 (some .boolean) 1), (lw_gi 975 rfl rfl), (lw_gi 35 rfl rfl)⟩
set_option maxRecDepth 100000 in
theorem ok_X5_isRider : okV yX5_isRider cX5_isRider 2 (some .boolean) 1 := ⟨(⟨(lw_gi 63 rfl rfl), (lw_gi 1020 rfl rfl), by decide +kernel, by decide +kernel, by decide +kernel⟩ : okC yX5_isRider cX5_isRider 2 (some .boolean) 1), (lw_gi 1019 rfl rfl), (lw_gi 42 rfl rfl)⟩
set_option maxRecDepth 100000 in
theorem ok_X5_isLift : okV yX5_isLift cX5_isLift 2 (some .boolean) 1 := ⟨(⟨(lw_gi 63 rfl rfl), (lw_gi 1057 rfl rfl), by decide +kernel, by decide +kernel, by decide +kernel⟩ : okC yX5_isLift cX5_isLift 2 (some .boolean) 1), (lw_gi 1056 rfl rfl), (lw_gi 44 rfl rfl)⟩
set_option maxRecDepth 100000 in
theorem ok_X5_addLift : okV yX5_addLift cX5_addLift 2 (some .int) 1 := ⟨(⟨(lw_gi 63 rfl rfl), (lw_gi 949 rfl rfl), by decide +kernel, by decide +kernel, by decide +kernel⟩ : okC yX5_addLift cX5_addLift 2 (some .int) 1), (lw_gi 947 rfl rfl), (lw_gi 948 rfl rfl)⟩
set_option maxRecDepth 100000 in
theorem ok_X5_setTenant : okV yX5_setTenant cX5_setTenant 4 (some .int) 2 := ⟨(⟨(lw_gi 63 rfl rfl), (lw_gi 960 rfl rfl), by decide +kernel, by decide +kernel, by decide +kernel⟩ : okC yX5_setTenant cX5_setTenant 4 (some .int) 2), (lw_gi 958 rfl rfl), (lw_gi 959 rfl rfl)⟩
set_option maxRecDepth 100000 in
theorem ok_X5_setHours : okV yX5_setHours cX5_setHours 4 (some .int) 3 := ⟨(⟨(lw_gi 63 rfl rfl), (lw_gi 964 rfl rfl), by decide +kernel, by decide +kernel, by decide +kernel⟩ : okC yX5_setHours cX5_setHours 4 (some .int) 3), (lw_gi 962 rfl rfl), (lw_gi 963 rfl rfl)⟩
set_option maxRecDepth 100000 in
theorem ok_X5_addBadge : okV yX5_addBadge cX5_addBadge 2 (some .int) 1 := ⟨(⟨(lw_gi 63 rfl rfl), (lw_gi 968 rfl rfl), by decide +kernel, by decide +kernel, by decide +kernel⟩ : okC yX5_addBadge cX5_addBadge 2 (some .int) 1), (lw_gi 966 rfl rfl), (lw_gi 967 rfl rfl)⟩
set_option maxRecDepth 100000 in
theorem ok_X5_setRevoked : okV yX5_setRevoked cX5_setRevoked 4 (some .boolean) 2 := ⟨(⟨(lw_gi 63 rfl rfl), (lw_gi 972 rfl rfl), by decide +kernel, by decide +kernel, by decide +kernel⟩ : okC yX5_setRevoked cX5_setRevoked 4 (some .boolean) 2), (lw_gi 970 rfl rfl), (lw_gi 971 rfl rfl)⟩
set_option maxRecDepth 100000 in
theorem ok_X5_why : okV yX5_why cX5_why 3 (some .char) 2 := ⟨(⟨(lw_gi 63 rfl rfl), (lw_gi 991 rfl rfl), by decide +kernel, by decide +kernel, by decide +kernel⟩ : okC yX5_why cX5_why 3 (some .char) 2), (lw_gi 990 rfl rfl), (lw_gi 37 rfl rfl)⟩
set_option maxRecDepth 100000 in
theorem ok_X5_reason : okV yX5_reason cX5_reason 3 (some .char) 2 := ⟨(⟨(lw_gi 63 rfl rfl), (lw_gi 984 rfl rfl), by decide +kernel, by decide +kernel, by decide +kernel⟩ : okC yX5_reason cX5_reason 3 (some .char) 2), (lw_gi 982 rfl rfl), (lw_gi 983 rfl rfl)⟩
set_option maxRecDepth 100000 in
theorem ok_X5_aboardMany : okV yX5_aboardMany cX5_aboardMany 4 (some .int) 1 := ⟨(⟨(lw_gi 63 rfl rfl), (lw_gi 1085 rfl rfl), by decide +kernel, by decide +kernel, by decide +kernel⟩ : okC yX5_aboardMany cX5_aboardMany 4 (some .int) 1), (lw_gi 1084 rfl rfl), (lw_gi 47 rfl rfl)⟩
set_option maxRecDepth 100000 in
theorem ok_X5_scoreOf : okV yX5_scoreOf cX5_scoreOf 5 (some .int) 2 := ⟨(⟨(lw_gi 63 rfl rfl), (lw_gi 1007 rfl rfl), by decide +kernel, by decide +kernel, by decide +kernel⟩ : okC yX5_scoreOf cX5_scoreOf 5 (some .int) 2), (lw_gi 1006 rfl rfl), (lw_gi 40 rfl rfl)⟩
set_option maxRecDepth 100000 in
theorem ok_X5_gives : okV yX5_gives cX5_gives 4 none 1 := ⟨(⟨(lw_gi 63 rfl rfl), (lw_gi 1003 rfl rfl), by decide +kernel, by decide +kernel, by decide +kernel⟩ : okC yX5_gives cX5_gives 4 none 1), (lw_gi 1002 rfl rfl), (lw_gi 39 rfl rfl)⟩
set_option maxRecDepth 100000 in
theorem ok_X5_ends : okV yX5_ends cX5_ends 3 none 2 := ⟨(⟨(lw_gi 63 rfl rfl), (lw_gi 1117 rfl rfl), by decide +kernel, by decide +kernel, by decide +kernel⟩ : okC yX5_ends cX5_ends 3 none 2), (lw_gi 1116 rfl rfl), (lw_gi 53 rfl rfl)⟩
set_option maxRecDepth 100000 in
theorem ok_X5_isOut : okV yX5_isOut cX5_isOut 3 (some .boolean) 1 := ⟨(⟨(lw_gi 63 rfl rfl), (lw_gi 999 rfl rfl), by decide +kernel, by decide +kernel, by decide +kernel⟩ : okC yX5_isOut cX5_isOut 3 (some .boolean) 1), (lw_gi 998 rfl rfl), (lw_gi 38 rfl rfl)⟩
set_option maxRecDepth 100000 in
theorem ok_X5_call : okV yX5_call cX5_call 5 (some .int) 3 := ⟨(⟨(lw_gi 63 rfl rfl), (lw_gi 995 rfl rfl), by decide +kernel, by decide +kernel, by decide +kernel⟩ : okC yX5_call cX5_call 5 (some .int) 3), (lw_gi 993 rfl rfl), (lw_gi 994 rfl rfl)⟩
set_option maxRecDepth 100000 in
theorem ok_X5_isNobody : okV yX5_isNobody cX5_isNobody 2 (some .boolean) 1 := ⟨(⟨(lw_gi 63 rfl rfl), (lw_gi 1016 rfl rfl), by decide +kernel, by decide +kernel, by decide +kernel⟩ : okC yX5_isNobody cX5_isNobody 2 (some .boolean) 1), (lw_gi 1015 rfl rfl), (lw_gi 41 rfl rfl)⟩
set_option maxRecDepth 100000 in
theorem ok_X5_state : okV yX5_state cX5_state 2 (some .char) 1 := ⟨(⟨(lw_gi 63 rfl rfl), (lw_gi 1012 rfl rfl), by decide +kernel, by decide +kernel, by decide +kernel⟩ : okC yX5_state cX5_state 2 (some .char) 1), (lw_gi 1010 rfl rfl), (lw_gi 1011 rfl rfl)⟩
set_option maxRecDepth 100000 in
theorem ok_X5_floorOf : okV yX5_floorOf cX5_floorOf 2 (some .int) 1 := ⟨(⟨(lw_gi 63 rfl rfl), (lw_gi 1024 rfl rfl), by decide +kernel, by decide +kernel, by decide +kernel⟩ : okC yX5_floorOf cX5_floorOf 2 (some .int) 1), (lw_gi 1022 rfl rfl), (lw_gi 1023 rfl rfl)⟩
set_option maxRecDepth 100000 in
theorem ok_X5_aim : okV yX5_aim cX5_aim 2 (some .int) 1 := ⟨(⟨(lw_gi 63 rfl rfl), (lw_gi 1028 rfl rfl), by decide +kernel, by decide +kernel, by decide +kernel⟩ : okC yX5_aim cX5_aim 2 (some .int) 1), (lw_gi 1026 rfl rfl), (lw_gi 1027 rfl rfl)⟩
set_option maxRecDepth 100000 in
theorem ok_X5_liftOf : okV yX5_liftOf cX5_liftOf 2 (some .int) 1 := ⟨(⟨(lw_gi 63 rfl rfl), (lw_gi 1032 rfl rfl), by decide +kernel, by decide +kernel, by decide +kernel⟩ : okC yX5_liftOf cX5_liftOf 2 (some .int) 1), (lw_gi 1030 rfl rfl), (lw_gi 1031 rfl rfl)⟩
set_option maxRecDepth 100000 in
theorem ok_X5_waitedBy : okV yX5_waitedBy cX5_waitedBy 2 (some .int) 1 := ⟨(⟨(lw_gi 63 rfl rfl), (lw_gi 1040 rfl rfl), by decide +kernel, by decide +kernel, by decide +kernel⟩ : okC yX5_waitedBy cX5_waitedBy 2 (some .int) 1), (lw_gi 1039 rfl rfl), (lw_gi 43 rfl rfl)⟩
set_option maxRecDepth 100000 in
theorem ok_X5_waited : okV yX5_waited cX5_waited 2 (some .int) 1 := ⟨(⟨(lw_gi 63 rfl rfl), (lw_gi 1036 rfl rfl), by decide +kernel, by decide +kernel, by decide +kernel⟩ : okC yX5_waited cX5_waited 2 (some .int) 1), (lw_gi 1034 rfl rfl), (lw_gi 1035 rfl rfl)⟩
set_option maxRecDepth 100000 in
theorem ok_X5_waitedByLog : okV yX5_waitedByLog cX5_waitedByLog 2 (some .int) 1 := ⟨(⟨(lw_gi 63 rfl rfl), (lw_gi 1044 rfl rfl), by decide +kernel, by decide +kernel, by decide +kernel⟩ : okC yX5_waitedByLog cX5_waitedByLog 2 (some .int) 1), (lw_gi 1042 rfl rfl), (lw_gi 1043 rfl rfl)⟩
set_option maxRecDepth 100000 in
theorem ok_X5_entries : okV yX5_entries cX5_entries 1 (some .int) 0 := ⟨(⟨(lw_gi 63 rfl rfl), (lw_gi 1049 rfl rfl), by decide +kernel, by decide +kernel, by decide +kernel⟩ : okC yX5_entries cX5_entries 1 (some .int) 0), (lw_gi 1047 rfl rfl), (lw_gi 1048 rfl rfl)⟩
set_option maxRecDepth 100000 in
theorem ok_X5_frees : okV yX5_frees cX5_frees 4 (some .int) 1 := ⟨(⟨(lw_gi 63 rfl rfl), (lw_gi 1061 rfl rfl), by decide +kernel, by decide +kernel, by decide +kernel⟩ : okC yX5_frees cX5_frees 4 (some .int) 1), (lw_gi 1060 rfl rfl), (lw_gi 45 rfl rfl)⟩
set_option maxRecDepth 100000 in
theorem ok_X5_callOff : okV yX5_callOff cX5_callOff 2 (some .int) 1 := ⟨(⟨(lw_gi 63 rfl rfl), (lw_gi 1053 rfl rfl), by decide +kernel, by decide +kernel, by decide +kernel⟩ : okC yX5_callOff cX5_callOff 2 (some .int) 1), (lw_gi 1051 rfl rfl), (lw_gi 1052 rfl rfl)⟩
set_option maxRecDepth 100000 in
theorem ok_X5_isNoLift : okV yX5_isNoLift cX5_isNoLift 2 (some .boolean) 1 := ⟨(⟨(lw_gi 63 rfl rfl), (lw_gi 1069 rfl rfl), by decide +kernel, by decide +kernel, by decide +kernel⟩ : okC yX5_isNoLift cX5_isNoLift 2 (some .boolean) 1), (lw_gi 1068 rfl rfl), (lw_gi 46 rfl rfl)⟩
set_option maxRecDepth 100000 in
theorem ok_X5_service : okV yX5_service cX5_service 2 (some .char) 1 := ⟨(⟨(lw_gi 63 rfl rfl), (lw_gi 1065 rfl rfl), by decide +kernel, by decide +kernel, by decide +kernel⟩ : okC yX5_service cX5_service 2 (some .char) 1), (lw_gi 1063 rfl rfl), (lw_gi 1064 rfl rfl)⟩
set_option maxRecDepth 100000 in
theorem ok_X5_floorOfLift : okV yX5_floorOfLift cX5_floorOfLift 2 (some .int) 1 := ⟨(⟨(lw_gi 63 rfl rfl), (lw_gi 1073 rfl rfl), by decide +kernel, by decide +kernel, by decide +kernel⟩ : okC yX5_floorOfLift cX5_floorOfLift 2 (some .int) 1), (lw_gi 1071 rfl rfl), (lw_gi 1072 rfl rfl)⟩
set_option maxRecDepth 100000 in
theorem ok_X5_isUp : okV yX5_isUp cX5_isUp 2 (some .boolean) 1 := ⟨(⟨(lw_gi 63 rfl rfl), (lw_gi 1077 rfl rfl), by decide +kernel, by decide +kernel, by decide +kernel⟩ : okC yX5_isUp cX5_isUp 2 (some .boolean) 1), (lw_gi 1075 rfl rfl), (lw_gi 1076 rfl rfl)⟩
set_option maxRecDepth 100000 in
theorem ok_X5_aboard : okV yX5_aboard cX5_aboard 2 (some .int) 1 := ⟨(⟨(lw_gi 63 rfl rfl), (lw_gi 1081 rfl rfl), by decide +kernel, by decide +kernel, by decide +kernel⟩ : okC yX5_aboard cX5_aboard 2 (some .int) 1), (lw_gi 1079 rfl rfl), (lw_gi 1080 rfl rfl)⟩
set_option maxRecDepth 100000 in
theorem ok_X5_score : okV yX5_score cX5_score 3 (some .int) 2 := ⟨(⟨(lw_gi 63 rfl rfl), (lw_gi 1089 rfl rfl), by decide +kernel, by decide +kernel, by decide +kernel⟩ : okC yX5_score cX5_score 3 (some .int) 2), (lw_gi 1087 rfl rfl), (lw_gi 1088 rfl rfl)⟩
set_option maxRecDepth 100000 in
theorem ok_X5_opens : okV yX5_opens cX5_opens 4 (some .boolean) 1 := ⟨(⟨(lw_gi 63 rfl rfl), (lw_gi 1113 rfl rfl), by decide +kernel, by decide +kernel, by decide +kernel⟩ : okC yX5_opens cX5_opens 4 (some .boolean) 1), (lw_gi 1112 rfl rfl), (lw_gi 52 rfl rfl)⟩
set_option maxRecDepth 100000 in
theorem ok_X5_isAim : okV yX5_isAim cX5_isAim 4 (some .boolean) 3 := ⟨(⟨(lw_gi 63 rfl rfl), (lw_gi 1129 rfl rfl), by decide +kernel, by decide +kernel, by decide +kernel⟩ : okC yX5_isAim cX5_isAim 4 (some .boolean) 3), (lw_gi 1128 rfl rfl), (lw_gi 56 rfl rfl)⟩
set_option maxRecDepth 100000 in
theorem ok_X5_hasAim : okV yX5_hasAim cX5_hasAim 6 (some .boolean) 3 := ⟨(⟨(lw_gi 63 rfl rfl), (lw_gi 1125 rfl rfl), by decide +kernel, by decide +kernel, by decide +kernel⟩ : okC yX5_hasAim cX5_hasAim 6 (some .boolean) 3), (lw_gi 1124 rfl rfl), (lw_gi 55 rfl rfl)⟩
set_option maxRecDepth 100000 in
theorem ok_X5_goes : okV yX5_goes cX5_goes 4 none 1 := ⟨(⟨(lw_gi 63 rfl rfl), (lw_gi 1121 rfl rfl), by decide +kernel, by decide +kernel, by decide +kernel⟩ : okC yX5_goes cX5_goes 4 none 1), (lw_gi 1120 rfl rfl), (lw_gi 54 rfl rfl)⟩
set_option maxRecDepth 100000 in
theorem ok_X5_works : okV yX5_works cX5_works 2 none 1 := ⟨(⟨(lw_gi 63 rfl rfl), (lw_gi 1109 rfl rfl), by decide +kernel, by decide +kernel, by decide +kernel⟩ : okC yX5_works cX5_works 2 none 1), (lw_gi 1108 rfl rfl), (lw_gi 51 rfl rfl)⟩
set_option maxRecDepth 100000 in
theorem ok_X5_isWaiting : okV yX5_isWaiting cX5_isWaiting 3 (some .boolean) 1 := ⟨(⟨(lw_gi 63 rfl rfl), (lw_gi 1105 rfl rfl), by decide +kernel, by decide +kernel, by decide +kernel⟩ : okC yX5_isWaiting cX5_isWaiting 3 (some .boolean) 1), (lw_gi 1104 rfl rfl), (lw_gi 50 rfl rfl)⟩
set_option maxRecDepth 100000 in
theorem ok_X5_turnNow : okV yX5_turnNow cX5_turnNow 2 (some .int) 0 := ⟨(⟨(lw_gi 63 rfl rfl), (lw_gi 1101 rfl rfl), by decide +kernel, by decide +kernel, by decide +kernel⟩ : okC yX5_turnNow cX5_turnNow 2 (some .int) 0), (lw_gi 1100 rfl rfl), (lw_gi 49 rfl rfl)⟩
set_option maxRecDepth 100000 in
theorem ok_X5_outMany : okV yX5_outMany cX5_outMany 3 (some .int) 0 := ⟨(⟨(lw_gi 63 rfl rfl), (lw_gi 1133 rfl rfl), by decide +kernel, by decide +kernel, by decide +kernel⟩ : okC yX5_outMany cX5_outMany 3 (some .int) 0), (lw_gi 1132 rfl rfl), (lw_gi 57 rfl rfl)⟩
set_option maxRecDepth 100000 in
theorem ok_X5_passesOne : okV yX5_passesOne cX5_passesOne 3 none 0 := ⟨(⟨(lw_gi 63 rfl rfl), (lw_gi 1097 rfl rfl), by decide +kernel, by decide +kernel, by decide +kernel⟩ : okC yX5_passesOne cX5_passesOne 3 none 0), (lw_gi 1096 rfl rfl), (lw_gi 48 rfl rfl)⟩
set_option maxRecDepth 100000 in
theorem ok_X5_pass : okV yX5_pass cX5_pass 4 (some .int) 1 := ⟨(⟨(lw_gi 63 rfl rfl), (lw_gi 1093 rfl rfl), by decide +kernel, by decide +kernel, by decide +kernel⟩ : okC yX5_pass cX5_pass 4 (some .int) 1), (lw_gi 1091 rfl rfl), (lw_gi 1092 rfl rfl)⟩
set_option maxRecDepth 100000 in
theorem ok_X5_time : okV yX5_time cX5_time 1 (some .int) 0 := ⟨(⟨(lw_gi 63 rfl rfl), (lw_gi 1137 rfl rfl), by decide +kernel, by decide +kernel, by decide +kernel⟩ : okC yX5_time cX5_time 1 (some .int) 0), (lw_gi 1135 rfl rfl), (lw_gi 1136 rfl rfl)⟩
set_option maxRecDepth 100000 in
theorem ok_X5_alarm : okV yX5_alarm cX5_alarm 3 (some .int) 1 := ⟨(⟨(lw_gi 63 rfl rfl), (lw_gi 1141 rfl rfl), by decide +kernel, by decide +kernel, by decide +kernel⟩ : okC yX5_alarm cX5_alarm 3 (some .int) 1), (lw_gi 1139 rfl rfl), (lw_gi 1140 rfl rfl)⟩
set_option maxRecDepth 100000 in
theorem ok_X5_isAlarm : okV yX5_isAlarm cX5_isAlarm 1 (some .boolean) 0 := ⟨(⟨(lw_gi 63 rfl rfl), (lw_gi 1145 rfl rfl), by decide +kernel, by decide +kernel, by decide +kernel⟩ : okC yX5_isAlarm cX5_isAlarm 1 (some .boolean) 0), (lw_gi 1143 rfl rfl), (lw_gi 1144 rfl rfl)⟩
set_option maxRecDepth 100000 in
theorem ok_X5_turn : okV yX5_turn cX5_turn 2 (some .int) 0 := ⟨(⟨(lw_gi 63 rfl rfl), (lw_gi 1149 rfl rfl), by decide +kernel, by decide +kernel, by decide +kernel⟩ : okC yX5_turn cX5_turn 2 (some .int) 0), (lw_gi 1147 rfl rfl), (lw_gi 1148 rfl rfl)⟩
set_option maxRecDepth 100000 in
theorem ok_X5_opened : okV yX5_opened cX5_opened 1 (some .int) 0 := ⟨(⟨(lw_gi 63 rfl rfl), (lw_gi 1153 rfl rfl), by decide +kernel, by decide +kernel, by decide +kernel⟩ : okC yX5_opened cX5_opened 1 (some .int) 0), (lw_gi 1151 rfl rfl), (lw_gi 1152 rfl rfl)⟩
set_option maxRecDepth 100000 in
theorem ok_X5_refused : okV yX5_refused cX5_refused 1 (some .int) 0 := ⟨(⟨(lw_gi 63 rfl rfl), (lw_gi 1157 rfl rfl), by decide +kernel, by decide +kernel, by decide +kernel⟩ : okC yX5_refused cX5_refused 1 (some .int) 0), (lw_gi 1155 rfl rfl), (lw_gi 1156 rfl rfl)⟩
set_option maxRecDepth 100000 in
theorem ok_X5_doneShare : okV yX5_doneShare cX5_doneShare 1 (some .float) 0 := ⟨(⟨(lw_gi 63 rfl rfl), (lw_gi 1161 rfl rfl), by decide +kernel, by decide +kernel, by decide +kernel⟩ : okC yX5_doneShare cX5_doneShare 1 (some .float) 0), (lw_gi 1159 rfl rfl), (lw_gi 1160 rfl rfl)⟩
set_option maxRecDepth 100000 in
theorem ok_X5_meanWait : okV yX5_meanWait cX5_meanWait 3 (some .double) 0 := ⟨(⟨(lw_gi 63 rfl rfl), (lw_gi 1165 rfl rfl), by decide +kernel, by decide +kernel, by decide +kernel⟩ : okC yX5_meanWait cX5_meanWait 3 (some .double) 0), (lw_gi 1163 rfl rfl), (lw_gi 1164 rfl rfl)⟩
set_option maxRecDepth 100000 in
theorem ok_Jx00060_init_a7421 : okI yJx00060_init_a7421 cJx00060_init_a7421 2 none 1 := ⟨(⟨(lw_gi 75 rfl rfl), (lw_gi 376 rfl rfl), by decide +kernel, by decide +kernel, by decide +kernel⟩ : okC yJx00060_init_a7421 cJx00060_init_a7421 2 none 1), (lw_gi 375 rfl rfl), rfl⟩
set_option maxRecDepth 100000 in
theorem ok_J9_abs_0f7a4 : okS yJ9_abs_0f7a4 cJ9_abs_0f7a4 1 (some .int) 1 := ⟨(⟨(lw_gi 71 rfl rfl), (lw_gi 584 rfl rfl), by decide +kernel, by decide +kernel, by decide +kernel⟩ : okC yJ9_abs_0f7a4 cJ9_abs_0f7a4 1 (some .int) 1), (lw_gi 583 rfl rfl)⟩
set_option maxRecDepth 100000 in
theorem ok_J9_max_7cf53 : okS yJ9_max_7cf53 cJ9_max_7cf53 2 (some .int) 2 := ⟨(⟨(lw_gi 71 rfl rfl), (lw_gi 330 rfl rfl), by decide +kernel, by decide +kernel, by decide +kernel⟩ : okC yJ9_max_7cf53 cJ9_max_7cf53 2 (some .int) 2), (lw_gi 329 rfl rfl)⟩
set_option maxRecDepth 100000 in
theorem ok_J9_min_7cf53 : okS yJ9_min_7cf53 cJ9_min_7cf53 2 (some .int) 2 := ⟨(⟨(lw_gi 71 rfl rfl), (lw_gi 364 rfl rfl), by decide +kernel, by decide +kernel, by decide +kernel⟩ : okC yJ9_min_7cf53 cJ9_min_7cf53 2 (some .int) 2), (lw_gi 363 rfl rfl)⟩
set_option maxRecDepth 100000 in
theorem ok_Jxa1e45_init_da8c8 : okI yJxa1e45_init_da8c8 cJxa1e45_init_da8c8 1 none 0 := ⟨(⟨(lw_gi 60 rfl rfl), (lw_gi 103 rfl rfl), by decide +kernel, by decide +kernel, by decide +kernel⟩ : okC yJxa1e45_init_da8c8 cJxa1e45_init_da8c8 1 none 0), (lw_gi 102 rfl rfl), rfl⟩
set_option maxRecDepth 100000 in
theorem ok_Jxc12de_init_da8c8 : okI yJxc12de_init_da8c8 cJxc12de_init_da8c8 1 none 0 := ⟨(⟨(lw_gi 61 rfl rfl), (lw_gi 100 rfl rfl), by decide +kernel, by decide +kernel, by decide +kernel⟩ : okC yJxc12de_init_da8c8 cJxc12de_init_da8c8 1 none 0), (lw_gi 99 rfl rfl), rfl⟩
set_option maxRecDepth 100000 in
theorem ok_Jx4a65c_init_da8c8 : okI yJx4a65c_init_da8c8 cJx4a65c_init_da8c8 1 none 0 := ⟨(⟨(lw_gi 62 rfl rfl), (lw_gi 97 rfl rfl), by decide +kernel, by decide +kernel, by decide +kernel⟩ : okC yJx4a65c_init_da8c8 cJx4a65c_init_da8c8 1 none 0), (lw_gi 96 rfl rfl), rfl⟩
set_option maxRecDepth 100000 in
theorem ok_Jx4a65c_grow_92f84 : okV yJx4a65c_grow_92f84 cJx4a65c_grow_92f84 4 (some (.array (.object "java/lang/Object"))) 1 := ⟨(⟨(lw_gi 62 rfl rfl), (lw_gi 324 rfl rfl), by decide +kernel, by decide +kernel, by decide +kernel⟩ : okC yJx4a65c_grow_92f84 cJx4a65c_grow_92f84 4 (some (.array (.object "java/lang/Object"))) 1), (lw_gi 323 rfl rfl), (lw_gi 3 rfl rfl)⟩
set_option maxRecDepth 100000 in
theorem ok_Jx4a65c_grow_d5877 : okV yJx4a65c_grow_d5877 cJx4a65c_grow_d5877 1 (some (.array (.object "java/lang/Object"))) 0 := ⟨(⟨(lw_gi 62 rfl rfl), (lw_gi 320 rfl rfl), by decide +kernel, by decide +kernel, by decide +kernel⟩ : okC yJx4a65c_grow_d5877 cJx4a65c_grow_d5877 1 (some (.array (.object "java/lang/Object"))) 0), (lw_gi 319 rfl rfl), (lw_gi 2 rfl rfl)⟩
set_option maxRecDepth 100000 in
theorem ok_Jx4a65c_size_8abf5 : okV yJx4a65c_size_8abf5 cJx4a65c_size_8abf5 1 (some .int) 0 := ⟨(⟨(lw_gi 62 rfl rfl), (lw_gi 164 rfl rfl), by decide +kernel, by decide +kernel, by decide +kernel⟩ : okC yJx4a65c_size_8abf5 cJx4a65c_size_8abf5 1 (some .int) 0), (lw_gi 162 rfl rfl), (lw_gi 163 rfl rfl)⟩
set_option maxRecDepth 100000 in
theorem ok_Jx4a65c_isEmpty_aae02 : okV yJx4a65c_isEmpty_aae02 cJx4a65c_isEmpty_aae02 1 (some .boolean) 0 := ⟨(⟨(lw_gi 62 rfl rfl), (lw_gi 797 rfl rfl), by decide +kernel, by decide +kernel, by decide +kernel⟩ : okC yJx4a65c_isEmpty_aae02 cJx4a65c_isEmpty_aae02 1 (some .boolean) 0), (lw_gi 795 rfl rfl), (lw_gi 796 rfl rfl)⟩
set_option maxRecDepth 100000 in
theorem ok_Jx4a65c_elementData_915e3 : okV yJx4a65c_elementData_915e3 cJx4a65c_elementData_915e3 2 (some (.object "java/lang/Object")) 1 := ⟨(⟨(lw_gi 62 rfl rfl), (lw_gi 471 rfl rfl), by decide +kernel, by decide +kernel, by decide +kernel⟩ : okC yJx4a65c_elementData_915e3 cJx4a65c_elementData_915e3 2 (some (.object "java/lang/Object")) 1), (lw_gi 469 rfl rfl), (lw_gi 470 rfl rfl)⟩
set_option maxRecDepth 100000 in
theorem ok_Jx4a65c_get_915e3 : okV yJx4a65c_get_915e3 cJx4a65c_get_915e3 2 (some (.object "java/lang/Object")) 1 := ⟨(⟨(lw_gi 62 rfl rfl), (lw_gi 461 rfl rfl), by decide +kernel, by decide +kernel, by decide +kernel⟩ : okC yJx4a65c_get_915e3 cJx4a65c_get_915e3 2 (some (.object "java/lang/Object")) 1), (lw_gi 459 rfl rfl), (lw_gi 460 rfl rfl)⟩
set_option maxRecDepth 100000 in
theorem ok_Jx4a65c_add_72be8 : okV yJx4a65c_add_72be8 cJx4a65c_add_72be8 4 none 3 := ⟨(⟨(lw_gi 62 rfl rfl), (lw_gi 316 rfl rfl), by decide +kernel, by decide +kernel, by decide +kernel⟩ : okC yJx4a65c_add_72be8 cJx4a65c_add_72be8 4 none 3), (lw_gi 315 rfl rfl), (lw_gi 1 rfl rfl)⟩
set_option maxRecDepth 100000 in
theorem ok_Jx4a65c_add_9ea2d : okV yJx4a65c_add_9ea2d cJx4a65c_add_9ea2d 2 (some .boolean) 1 := ⟨(⟨(lw_gi 62 rfl rfl), (lw_gi 312 rfl rfl), by decide +kernel, by decide +kernel, by decide +kernel⟩ : okC yJx4a65c_add_9ea2d cJx4a65c_add_9ea2d 2 (some .boolean) 1), (lw_gi 310 rfl rfl), (lw_gi 311 rfl rfl)⟩
set_option maxRecDepth 100000 in
theorem ok_Jx4a65c_remove_915e3 : okV yJx4a65c_remove_915e3 cJx4a65c_remove_915e3 4 (some (.object "java/lang/Object")) 1 := ⟨(⟨(lw_gi 62 rfl rfl), (lw_gi 760 rfl rfl), by decide +kernel, by decide +kernel, by decide +kernel⟩ : okC yJx4a65c_remove_915e3 cJx4a65c_remove_915e3 4 (some (.object "java/lang/Object")) 1), (lw_gi 758 rfl rfl), (lw_gi 759 rfl rfl)⟩
set_option maxRecDepth 100000 in
theorem ok_Jx4a65c_fastRemove_b59b0 : okV yJx4a65c_fastRemove_b59b0 cJx4a65c_fastRemove_b59b0 4 none 2 := ⟨(⟨(lw_gi 62 rfl rfl), (lw_gi 764 rfl rfl), by decide +kernel, by decide +kernel, by decide +kernel⟩ : okC yJx4a65c_fastRemove_b59b0 cJx4a65c_fastRemove_b59b0 4 none 2), (lw_gi 763 rfl rfl), (lw_gi 25 rfl rfl)⟩
set_option maxRecDepth 100000 in
theorem ok_J7_copyOf_1904c : okS yJ7_copyOf_1904c cJ7_copyOf_1904c 2 (some (.array (.object "java/lang/Object"))) 2 := ⟨(⟨(lw_gi 72 rfl rfl), (lw_gi 337 rfl rfl), by decide +kernel, by decide +kernel, by decide +kernel⟩ : okC yJ7_copyOf_1904c cJ7_copyOf_1904c 2 (some (.array (.object "java/lang/Object"))) 2), (lw_gi 336 rfl rfl)⟩
set_option maxRecDepth 100000 in
theorem ok_J7_copyOf_6403c : okS yJ7_copyOf_6403c cJ7_copyOf_6403c 4 (some (.array (.object "java/lang/Object"))) 3 := ⟨(⟨(lw_gi 72 rfl rfl), (lw_gi 358 rfl rfl), by decide +kernel, by decide +kernel, by decide +kernel⟩ : okC yJ7_copyOf_6403c cJ7_copyOf_6403c 4 (some (.array (.object "java/lang/Object"))) 3), (lw_gi 357 rfl rfl)⟩
set_option maxRecDepth 100000 in
theorem ok_J15_checkIndex_7cf53 : okS yJ15_checkIndex_7cf53 cJ15_checkIndex_7cf53 2 (some .int) 2 := ⟨(⟨(lw_gi 78 rfl rfl), (lw_gi 464 rfl rfl), by decide +kernel, by decide +kernel, by decide +kernel⟩ : okC yJ15_checkIndex_7cf53 cJ15_checkIndex_7cf53 2 (some .int) 2), (lw_gi 463 rfl rfl)⟩
set_option maxRecDepth 100000 in
theorem ok_J8_newLength_cabcc : okS yJ8_newLength_cabcc cJ8_newLength_cabcc 4 (some .int) 3 := ⟨(⟨(lw_gi 70 rfl rfl), (lw_gi 327 rfl rfl), by decide +kernel, by decide +kernel, by decide +kernel⟩ : okC yJ8_newLength_cabcc cJ8_newLength_cabcc 4 (some .int) 3), (lw_gi 326 rfl rfl)⟩
set_option maxRecDepth 100000 in
theorem ok_J8_hugeLength_7cf53 : okS yJ8_hugeLength_7cf53 cJ8_hugeLength_7cf53 3 (some .int) 2 := ⟨(⟨(lw_gi 70 rfl rfl), (lw_gi 334 rfl rfl), by decide +kernel, by decide +kernel, by decide +kernel⟩ : okC yJ8_hugeLength_7cf53 cJ8_hugeLength_7cf53 3 (some .int) 2), (lw_gi 333 rfl rfl)⟩
set_option maxRecDepth 100000 in
theorem ok_J3_checkIndex_8e157 : okS yJ3_checkIndex_8e157 cJ3_checkIndex_8e157 3 (some .int) 3 := ⟨(⟨(lw_gi 79 rfl rfl), (lw_gi 467 rfl rfl), by decide +kernel, by decide +kernel, by decide +kernel⟩ : okC yJ3_checkIndex_8e157 cJ3_checkIndex_8e157 3 (some .int) 3), (lw_gi 466 rfl rfl)⟩
set_option maxRecDepth 100000 in
theorem lk_L_103 : Cond.methodLink RL 103 yX4_init ∈ lw_g := (lw_gi 87 rfl rfl)
set_option maxRecDepth 100000 in
theorem lk_X4_1 : Cond.methodLink RX4 1 objectInit ∈ lw_g := (lw_gi 90 rfl rfl)
set_option maxRecDepth 100000 in
theorem lk_X4_21 : Cond.methodLink RX4 21 yJx4a65c_init_da8c8 ∈ lw_g := (lw_gi 95 rfl rfl)
set_option maxRecDepth 100000 in
theorem lk_Jx4a65c_1 : Cond.methodLink RJx4a65c 1 yJxc12de_init_da8c8 ∈ lw_g := (lw_gi 98 rfl rfl)
set_option maxRecDepth 100000 in
theorem lk_Jxc12de_1 : Cond.methodLink RJxc12de 1 yJxa1e45_init_da8c8 ∈ lw_g := (lw_gi 101 rfl rfl)
set_option maxRecDepth 100000 in
theorem lk_Jxa1e45_1 : Cond.methodLink RJxa1e45 1 objectInit ∈ lw_g := (lw_gi 104 rfl rfl)
set_option maxRecDepth 100000 in
theorem lk_L_155 : Cond.methodLink RL 155 yX4_entries ∈ lw_g := (lw_gi 157 rfl rfl)
set_option maxRecDepth 100000 in
theorem lk_X4_58 : Cond.methodLink RX4 58 yJx4a65c_size_8abf5 ∈ lw_g := (lw_gi 161 rfl rfl)
set_option maxRecDepth 100000 in
theorem lk_L_180 : Cond.methodLink RL 180 yX4_time ∈ lw_g := (lw_gi 165 rfl rfl)
set_option maxRecDepth 100000 in
theorem lk_L_187 : Cond.methodLink RL 187 yX4_isAlarm ∈ lw_g := (lw_gi 169 rfl rfl)
set_option maxRecDepth 100000 in
theorem lk_L_196 : Cond.methodLink RL 196 yX4_opened ∈ lw_g := (lw_gi 173 rfl rfl)
set_option maxRecDepth 100000 in
theorem lk_L_200 : Cond.methodLink RL 200 yX4_refused ∈ lw_g := (lw_gi 177 rfl rfl)
set_option maxRecDepth 100000 in
theorem lk_L_107 : Cond.methodLink RL 107 yL_addLift ∈ lw_g := (lw_gi 181 rfl rfl)
set_option maxRecDepth 100000 in
theorem lk_L_7 : Cond.methodLink RL 7 yX4_addLift ∈ lw_g := (lw_gi 186 rfl rfl)
set_option maxRecDepth 100000 in
theorem lk_X2_3 : Cond.methodLink RX2 3 objectInit ∈ lw_g := (lw_gi 283 rfl rfl)
set_option maxRecDepth 100000 in
theorem lk_X4_72 : Cond.methodLink RX4 72 yJx4a65c_add_9ea2d ∈ lw_g := (lw_gi 309 rfl rfl)
set_option maxRecDepth 100000 in
theorem lk_Jx4a65c_131 : Cond.methodLink RJx4a65c 131 yJx4a65c_add_72be8 ∈ lw_g := (lw_gi 313 rfl rfl)
set_option maxRecDepth 100000 in
theorem lk_Jx4a65c_129 : Cond.methodLink RJx4a65c 129 yJx4a65c_grow_d5877 ∈ lw_g := (lw_gi 317 rfl rfl)
set_option maxRecDepth 100000 in
theorem lk_Jx4a65c_69 : Cond.methodLink RJx4a65c 69 yJx4a65c_grow_92f84 ∈ lw_g := (lw_gi 321 rfl rfl)
set_option maxRecDepth 100000 in
theorem lk_Jx4a65c_73 : Cond.methodLink RJx4a65c 73 yJ8_newLength_cabcc ∈ lw_g := (lw_gi 325 rfl rfl)
set_option maxRecDepth 100000 in
theorem lk_J8_194 : Cond.methodLink RJ8 194 yJ9_max_7cf53 ∈ lw_g := (lw_gi 328 rfl rfl)
set_option maxRecDepth 100000 in
theorem lk_J8_201 : Cond.methodLink RJ8 201 yJ8_hugeLength_7cf53 ∈ lw_g := (lw_gi 332 rfl rfl)
set_option maxRecDepth 100000 in
theorem lk_Jx4a65c_66 : Cond.methodLink RJx4a65c 66 yJ7_copyOf_1904c ∈ lw_g := (lw_gi 335 rfl rfl)
set_option maxRecDepth 100000 in
theorem lk_J7_300 : Cond.methodLink RJ7 300 yJ7_copyOf_6403c ∈ lw_g := (lw_gi 356 rfl rfl)
set_option maxRecDepth 100000 in
theorem lk_J7_304 : Cond.methodLink RJ7 304 yJ9_min_7cf53 ∈ lw_g := (lw_gi 362 rfl rfl)
set_option maxRecDepth 100000 in
theorem lk_Jx4a65c_79 : Cond.methodLink RJx4a65c 79 yJ9_max_7cf53 ∈ lw_g := (lw_gi 368 rfl rfl)
set_option maxRecDepth 100000 in
theorem lk_L_116 : Cond.methodLink RL 116 yL_setTenant ∈ lw_g := (lw_gi 370 rfl rfl)
set_option maxRecDepth 100000 in
theorem lk_L_17 : Cond.methodLink RL 17 yX4_setTenant ∈ lw_g := (lw_gi 397 rfl rfl)
set_option maxRecDepth 100000 in
theorem lk_L_120 : Cond.methodLink RL 120 yL_setHours ∈ lw_g := (lw_gi 415 rfl rfl)
set_option maxRecDepth 100000 in
theorem lk_L_23 : Cond.methodLink RL 23 yX4_setHours ∈ lw_g := (lw_gi 418 rfl rfl)
set_option maxRecDepth 100000 in
theorem lk_L_124 : Cond.methodLink RL 124 yL_addBadge ∈ lw_g := (lw_gi 423 rfl rfl)
set_option maxRecDepth 100000 in
theorem lk_L_27 : Cond.methodLink RL 27 yX4_addBadge ∈ lw_g := (lw_gi 426 rfl rfl)
set_option maxRecDepth 100000 in
theorem lk_X0_1 : Cond.methodLink RX0 1 objectInit ∈ lw_g := (lw_gi 436 rfl rfl)
set_option maxRecDepth 100000 in
theorem lk_L_127 : Cond.methodLink RL 127 yL_setRevoked ∈ lw_g := (lw_gi 446 rfl rfl)
set_option maxRecDepth 100000 in
theorem lk_L_30 : Cond.methodLink RL 30 yX4_setRevoked ∈ lw_g := (lw_gi 449 rfl rfl)
set_option maxRecDepth 100000 in
theorem lk_X4_95 : Cond.methodLink RX4 95 yX4_badgeNumbered ∈ lw_g := (lw_gi 453 rfl rfl)
set_option maxRecDepth 100000 in
theorem lk_X4_214 : Cond.methodLink RX4 214 yJx4a65c_get_915e3 ∈ lw_g := (lw_gi 458 rfl rfl)
set_option maxRecDepth 100000 in
theorem lk_Jx4a65c_118 : Cond.methodLink RJx4a65c 118 yJ15_checkIndex_7cf53 ∈ lw_g := (lw_gi 462 rfl rfl)
set_option maxRecDepth 100000 in
theorem lk_J15_105 : Cond.methodLink RJ15 105 yJ3_checkIndex_8e157 ∈ lw_g := (lw_gi 465 rfl rfl)
set_option maxRecDepth 100000 in
theorem lk_Jx4a65c_123 : Cond.methodLink RJx4a65c 123 yJx4a65c_elementData_915e3 ∈ lw_g := (lw_gi 468 rfl rfl)
set_option maxRecDepth 100000 in
theorem lk_L_131 : Cond.methodLink RL 131 yL_reason ∈ lw_g := (lw_gi 472 rfl rfl)
set_option maxRecDepth 100000 in
theorem lk_L_34 : Cond.methodLink RL 34 yX4_reason ∈ lw_g := (lw_gi 475 rfl rfl)
set_option maxRecDepth 100000 in
theorem lk_X4_103 : Cond.methodLink RX4 103 yX4_checkFloor ∈ lw_g := (lw_gi 479 rfl rfl)
set_option maxRecDepth 100000 in
theorem lk_X4_106 : Cond.methodLink RX4 106 yX4_whyNot ∈ lw_g := (lw_gi 482 rfl rfl)
set_option maxRecDepth 100000 in
theorem lk_L_134 : Cond.methodLink RL 134 yL_call ∈ lw_g := (lw_gi 486 rfl rfl)
set_option maxRecDepth 100000 in
theorem lk_L_38 : Cond.methodLink RL 38 yX4_call ∈ lw_g := (lw_gi 490 rfl rfl)
set_option maxRecDepth 100000 in
theorem lk_X4_117 : Cond.methodLink RX4 117 yX4_hasRider ∈ lw_g := (lw_gi 511 rfl rfl)
set_option maxRecDepth 100000 in
theorem lk_X3_3 : Cond.methodLink RX3 3 objectInit ∈ lw_g := (lw_gi 521 rfl rfl)
set_option maxRecDepth 100000 in
theorem lk_X4_128 : Cond.methodLink RX4 128 yX4_note ∈ lw_g := (lw_gi 551 rfl rfl)
set_option maxRecDepth 100000 in
theorem lk_X1_1 : Cond.methodLink RX1 1 objectInit ∈ lw_g := (lw_gi 560 rfl rfl)
set_option maxRecDepth 100000 in
theorem lk_X4_132 : Cond.methodLink RX4 132 yX4_giveLift ∈ lw_g := (lw_gi 574 rfl rfl)
set_option maxRecDepth 100000 in
theorem lk_X4_186 : Cond.methodLink RX4 186 yX4_scoreOf ∈ lw_g := (lw_gi 578 rfl rfl)
set_option maxRecDepth 100000 in
theorem lk_X4_250 : Cond.methodLink RX4 250 yJ9_abs_0f7a4 ∈ lw_g := (lw_gi 582 rfl rfl)
set_option maxRecDepth 100000 in
theorem lk_L_137 : Cond.methodLink RL 137 yL_state ∈ lw_g := (lw_gi 585 rfl rfl)
set_option maxRecDepth 100000 in
theorem lk_L_43 : Cond.methodLink RL 43 yX4_state ∈ lw_g := (lw_gi 588 rfl rfl)
set_option maxRecDepth 100000 in
theorem lk_X4_136 : Cond.methodLink RX4 136 yX4_riderNumbered ∈ lw_g := (lw_gi 592 rfl rfl)
set_option maxRecDepth 100000 in
theorem lk_L_140 : Cond.methodLink RL 140 yL_floorOf ∈ lw_g := (lw_gi 597 rfl rfl)
set_option maxRecDepth 100000 in
theorem lk_L_47 : Cond.methodLink RL 47 yX4_floorOf ∈ lw_g := (lw_gi 600 rfl rfl)
set_option maxRecDepth 100000 in
theorem lk_L_143 : Cond.methodLink RL 143 yL_aim ∈ lw_g := (lw_gi 604 rfl rfl)
set_option maxRecDepth 100000 in
theorem lk_L_50 : Cond.methodLink RL 50 yX4_aim ∈ lw_g := (lw_gi 607 rfl rfl)
set_option maxRecDepth 100000 in
theorem lk_L_146 : Cond.methodLink RL 146 yL_liftOf ∈ lw_g := (lw_gi 611 rfl rfl)
set_option maxRecDepth 100000 in
theorem lk_L_53 : Cond.methodLink RL 53 yX4_liftOf ∈ lw_g := (lw_gi 615 rfl rfl)
set_option maxRecDepth 100000 in
theorem lk_L_149 : Cond.methodLink RL 149 yL_waited ∈ lw_g := (lw_gi 635 rfl rfl)
set_option maxRecDepth 100000 in
theorem lk_L_58 : Cond.methodLink RL 58 yX4_waited ∈ lw_g := (lw_gi 638 rfl rfl)
set_option maxRecDepth 100000 in
theorem lk_L_152 : Cond.methodLink RL 152 yL_waitedByLog ∈ lw_g := (lw_gi 642 rfl rfl)
set_option maxRecDepth 100000 in
theorem lk_L_61 : Cond.methodLink RL 61 yX4_waitedByLog ∈ lw_g := (lw_gi 645 rfl rfl)
set_option maxRecDepth 100000 in
theorem lk_X4_163 : Cond.methodLink RX4 163 yX4_ticksByLog ∈ lw_g := (lw_gi 649 rfl rfl)
set_option maxRecDepth 100000 in
theorem lk_L_159 : Cond.methodLink RL 159 yL_callOff ∈ lw_g := (lw_gi 653 rfl rfl)
set_option maxRecDepth 100000 in
theorem lk_L_64 : Cond.methodLink RL 64 yX4_callOff ∈ lw_g := (lw_gi 656 rfl rfl)
set_option maxRecDepth 100000 in
theorem lk_X4_167 : Cond.methodLink RX4 167 yX4_liftNumbered ∈ lw_g := (lw_gi 660 rfl rfl)
set_option maxRecDepth 100000 in
theorem lk_X4_176 : Cond.methodLink RX4 176 yX4_loseLift ∈ lw_g := (lw_gi 666 rfl rfl)
set_option maxRecDepth 100000 in
theorem lk_L_162 : Cond.methodLink RL 162 yL_service ∈ lw_g := (lw_gi 674 rfl rfl)
set_option maxRecDepth 100000 in
theorem lk_L_67 : Cond.methodLink RL 67 yX4_service ∈ lw_g := (lw_gi 677 rfl rfl)
set_option maxRecDepth 100000 in
theorem lk_L_165 : Cond.methodLink RL 165 yL_floorOfLift ∈ lw_g := (lw_gi 681 rfl rfl)
set_option maxRecDepth 100000 in
theorem lk_L_70 : Cond.methodLink RL 70 yX4_floorOfLift ∈ lw_g := (lw_gi 684 rfl rfl)
set_option maxRecDepth 100000 in
theorem lk_L_168 : Cond.methodLink RL 168 yL_isUp ∈ lw_g := (lw_gi 688 rfl rfl)
set_option maxRecDepth 100000 in
theorem lk_L_73 : Cond.methodLink RL 73 yX4_isUp ∈ lw_g := (lw_gi 691 rfl rfl)
set_option maxRecDepth 100000 in
theorem lk_L_171 : Cond.methodLink RL 171 yL_aboard ∈ lw_g := (lw_gi 695 rfl rfl)
set_option maxRecDepth 100000 in
theorem lk_L_77 : Cond.methodLink RL 77 yX4_aboard ∈ lw_g := (lw_gi 698 rfl rfl)
set_option maxRecDepth 100000 in
theorem lk_X4_183 : Cond.methodLink RX4 183 yX4_countAboard ∈ lw_g := (lw_gi 702 rfl rfl)
set_option maxRecDepth 100000 in
theorem lk_L_174 : Cond.methodLink RL 174 yL_score ∈ lw_g := (lw_gi 710 rfl rfl)
set_option maxRecDepth 100000 in
theorem lk_L_80 : Cond.methodLink RL 80 yX4_score ∈ lw_g := (lw_gi 713 rfl rfl)
set_option maxRecDepth 100000 in
theorem lk_L_177 : Cond.methodLink RL 177 yL_pass ∈ lw_g := (lw_gi 717 rfl rfl)
set_option maxRecDepth 100000 in
theorem lk_L_83 : Cond.methodLink RL 83 yX4_pass ∈ lw_g := (lw_gi 720 rfl rfl)
set_option maxRecDepth 100000 in
theorem lk_X4_192 : Cond.methodLink RX4 192 yX4_passOneTick ∈ lw_g := (lw_gi 725 rfl rfl)
set_option maxRecDepth 100000 in
theorem lk_X4_259 : Cond.methodLink RX4 259 yX4_giveLiftsInTurn ∈ lw_g := (lw_gi 729 rfl rfl)
set_option maxRecDepth 100000 in
theorem lk_X4_204 : Cond.methodLink RX4 204 yX4_floorInTurn ∈ lw_g := (lw_gi 733 rfl rfl)
set_option maxRecDepth 100000 in
theorem lk_X4_304 : Cond.methodLink RX4 304 yX4_isWaitedOn ∈ lw_g := (lw_gi 737 rfl rfl)
set_option maxRecDepth 100000 in
theorem lk_X4_262 : Cond.methodLink RX4 262 yX4_giveLiftsToAll ∈ lw_g := (lw_gi 741 rfl rfl)
set_option maxRecDepth 100000 in
theorem lk_X4_265 : Cond.methodLink RX4 265 yX4_runLift ∈ lw_g := (lw_gi 745 rfl rfl)
set_option maxRecDepth 100000 in
theorem lk_X4_275 : Cond.methodLink RX4 275 yX4_letOut ∈ lw_g := (lw_gi 753 rfl rfl)
set_option maxRecDepth 100000 in
theorem lk_X4_284 : Cond.methodLink RX4 284 yJx4a65c_remove_915e3 ∈ lw_g := (lw_gi 757 rfl rfl)
set_option maxRecDepth 100000 in
theorem lk_Jx4a65c_144 : Cond.methodLink RJx4a65c 144 yJx4a65c_fastRemove_b59b0 ∈ lw_g := (lw_gi 761 rfl rfl)
set_option maxRecDepth 100000 in
theorem lk_X4_287 : Cond.methodLink RX4 287 yX4_finish ∈ lw_g := (lw_gi 766 rfl rfl)
set_option maxRecDepth 100000 in
theorem lk_X4_278 : Cond.methodLink RX4 278 yX4_letIn ∈ lw_g := (lw_gi 770 rfl rfl)
set_option maxRecDepth 100000 in
theorem lk_X4_291 : Cond.methodLink RX4 291 yX4_hasRoom ∈ lw_g := (lw_gi 774 rfl rfl)
set_option maxRecDepth 100000 in
theorem lk_X4_294 : Cond.methodLink RX4 294 yX4_goAboard ∈ lw_g := (lw_gi 778 rfl rfl)
set_option maxRecDepth 100000 in
theorem lk_X4_281 : Cond.methodLink RX4 281 yX4_move ∈ lw_g := (lw_gi 782 rfl rfl)
set_option maxRecDepth 100000 in
theorem lk_X4_297 : Cond.methodLink RX4 297 yX4_hasAimTowards ∈ lw_g := (lw_gi 786 rfl rfl)
set_option maxRecDepth 100000 in
theorem lk_X4_269 : Cond.methodLink RX4 269 yX4_countWaiting ∈ lw_g := (lw_gi 790 rfl rfl)
set_option maxRecDepth 100000 in
theorem lk_X4_195 : Cond.methodLink RX4 195 yJx4a65c_isEmpty_aae02 ∈ lw_g := (lw_gi 794 rfl rfl)
set_option maxRecDepth 100000 in
theorem lk_L_184 : Cond.methodLink RL 184 yL_alarm ∈ lw_g := (lw_gi 798 rfl rfl)
set_option maxRecDepth 100000 in
theorem lk_L_86 : Cond.methodLink RL 86 yX4_alarm ∈ lw_g := (lw_gi 801 rfl rfl)
set_option maxRecDepth 100000 in
theorem lk_X4_201 : Cond.methodLink RX4 201 yX4_sendAllToLobby ∈ lw_g := (lw_gi 806 rfl rfl)
set_option maxRecDepth 100000 in
theorem lk_L_192 : Cond.methodLink RL 192 yL_turn ∈ lw_g := (lw_gi 810 rfl rfl)
set_option maxRecDepth 100000 in
theorem lk_L_89 : Cond.methodLink RL 89 yX4_turn ∈ lw_g := (lw_gi 813 rfl rfl)
set_option maxRecDepth 100000 in
theorem lk_L_204 : Cond.methodLink RL 204 yL_doneShare ∈ lw_g := (lw_gi 818 rfl rfl)
set_option maxRecDepth 100000 in
theorem lk_L_93 : Cond.methodLink RL 93 yX4_doneShare ∈ lw_g := (lw_gi 835 rfl rfl)
set_option maxRecDepth 100000 in
theorem lk_L_208 : Cond.methodLink RL 208 yL_meanWait ∈ lw_g := (lw_gi 842 rfl rfl)
set_option maxRecDepth 100000 in
theorem lk_L_99 : Cond.methodLink RL 99 yX4_meanWait ∈ lw_g := (lw_gi 845 rfl rfl)
set_option maxRecDepth 100000 in
theorem lk_L_113 : Cond.methodLink RL 113 yX5_thrown ∈ lw_g := (lw_gi 849 rfl rfl)
set_option maxRecDepth 100000 in
theorem lk_L_106 : Cond.methodLink RL 106 yX5_init ∈ lw_g := (lw_gi 855 rfl rfl)
set_option maxRecDepth 100000 in
theorem lk_X5_11 : Cond.methodLink RX5 11 objectInit ∈ lw_g := (lw_gi 858 rfl rfl)
set_option maxRecDepth 100000 in
theorem lk_L_112 : Cond.methodLink RL 112 yX5_addLift ∈ lw_g := (lw_gi 946 rfl rfl)
set_option maxRecDepth 100000 in
theorem lk_X5_7 : Cond.methodLink RX5 7 yX5_isBetween ∈ lw_g := (lw_gi 950 rfl rfl)
set_option maxRecDepth 100000 in
theorem lk_X5_80 : Cond.methodLink RX5 80 yX5_fails ∈ lw_g := (lw_gi 953 rfl rfl)
set_option maxRecDepth 100000 in
theorem lk_L_119 : Cond.methodLink RL 119 yX5_setTenant ∈ lw_g := (lw_gi 957 rfl rfl)
set_option maxRecDepth 100000 in
theorem lk_L_123 : Cond.methodLink RL 123 yX5_setHours ∈ lw_g := (lw_gi 961 rfl rfl)
set_option maxRecDepth 100000 in
theorem lk_L_126 : Cond.methodLink RL 126 yX5_addBadge ∈ lw_g := (lw_gi 965 rfl rfl)
set_option maxRecDepth 100000 in
theorem lk_L_130 : Cond.methodLink RL 130 yX5_setRevoked ∈ lw_g := (lw_gi 969 rfl rfl)
set_option maxRecDepth 100000 in
theorem lk_X5_84 : Cond.methodLink RX5 84 yX5_isBadge ∈ lw_g := (lw_gi 973 rfl rfl)
set_option maxRecDepth 100000 in
theorem lk_X5_88 : Cond.methodLink RX5 88 yX5_isWrong ∈ lw_g := (lw_gi 977 rfl rfl)
set_option maxRecDepth 100000 in
theorem lk_L_133 : Cond.methodLink RL 133 yX5_reason ∈ lw_g := (lw_gi 981 rfl rfl)
set_option maxRecDepth 100000 in
theorem lk_X5_94 : Cond.methodLink RX5 94 yX5_isFloor ∈ lw_g := (lw_gi 985 rfl rfl)
set_option maxRecDepth 100000 in
theorem lk_X5_97 : Cond.methodLink RX5 97 yX5_why ∈ lw_g := (lw_gi 988 rfl rfl)
set_option maxRecDepth 100000 in
theorem lk_L_136 : Cond.methodLink RL 136 yX5_call ∈ lw_g := (lw_gi 992 rfl rfl)
set_option maxRecDepth 100000 in
theorem lk_X5_116 : Cond.methodLink RX5 116 yX5_isOut ∈ lw_g := (lw_gi 996 rfl rfl)
set_option maxRecDepth 100000 in
theorem lk_X5_123 : Cond.methodLink RX5 123 yX5_gives ∈ lw_g := (lw_gi 1000 rfl rfl)
set_option maxRecDepth 100000 in
theorem lk_X5_106 : Cond.methodLink RX5 106 yX5_scoreOf ∈ lw_g := (lw_gi 1004 rfl rfl)
set_option maxRecDepth 100000 in
theorem lk_X5_101 : Cond.methodLink RX5 101 yJ9_abs_0f7a4 ∈ lw_g := (lw_gi 1008 rfl rfl)
set_option maxRecDepth 100000 in
theorem lk_L_139 : Cond.methodLink RL 139 yX5_state ∈ lw_g := (lw_gi 1009 rfl rfl)
set_option maxRecDepth 100000 in
theorem lk_X5_130 : Cond.methodLink RX5 130 yX5_isNobody ∈ lw_g := (lw_gi 1013 rfl rfl)
set_option maxRecDepth 100000 in
theorem lk_X5_127 : Cond.methodLink RX5 127 yX5_isRider ∈ lw_g := (lw_gi 1017 rfl rfl)
set_option maxRecDepth 100000 in
theorem lk_L_142 : Cond.methodLink RL 142 yX5_floorOf ∈ lw_g := (lw_gi 1021 rfl rfl)
set_option maxRecDepth 100000 in
theorem lk_L_145 : Cond.methodLink RL 145 yX5_aim ∈ lw_g := (lw_gi 1025 rfl rfl)
set_option maxRecDepth 100000 in
theorem lk_L_148 : Cond.methodLink RL 148 yX5_liftOf ∈ lw_g := (lw_gi 1029 rfl rfl)
set_option maxRecDepth 100000 in
theorem lk_L_151 : Cond.methodLink RL 151 yX5_waited ∈ lw_g := (lw_gi 1033 rfl rfl)
set_option maxRecDepth 100000 in
theorem lk_X5_133 : Cond.methodLink RX5 133 yX5_waitedBy ∈ lw_g := (lw_gi 1037 rfl rfl)
set_option maxRecDepth 100000 in
theorem lk_L_154 : Cond.methodLink RL 154 yX5_waitedByLog ∈ lw_g := (lw_gi 1041 rfl rfl)
set_option maxRecDepth 100000 in
theorem lk_X5_136 : Cond.methodLink RX5 136 yX5_waited ∈ lw_g := (lw_gi 1045 rfl rfl)
set_option maxRecDepth 100000 in
theorem lk_L_158 : Cond.methodLink RL 158 yX5_entries ∈ lw_g := (lw_gi 1046 rfl rfl)
set_option maxRecDepth 100000 in
theorem lk_L_161 : Cond.methodLink RL 161 yX5_callOff ∈ lw_g := (lw_gi 1050 rfl rfl)
set_option maxRecDepth 100000 in
theorem lk_X5_139 : Cond.methodLink RX5 139 yX5_isLift ∈ lw_g := (lw_gi 1054 rfl rfl)
set_option maxRecDepth 100000 in
theorem lk_X5_142 : Cond.methodLink RX5 142 yX5_frees ∈ lw_g := (lw_gi 1058 rfl rfl)
set_option maxRecDepth 100000 in
theorem lk_L_164 : Cond.methodLink RL 164 yX5_service ∈ lw_g := (lw_gi 1062 rfl rfl)
set_option maxRecDepth 100000 in
theorem lk_X5_145 : Cond.methodLink RX5 145 yX5_isNoLift ∈ lw_g := (lw_gi 1066 rfl rfl)
set_option maxRecDepth 100000 in
theorem lk_L_167 : Cond.methodLink RL 167 yX5_floorOfLift ∈ lw_g := (lw_gi 1070 rfl rfl)
set_option maxRecDepth 100000 in
theorem lk_L_170 : Cond.methodLink RL 170 yX5_isUp ∈ lw_g := (lw_gi 1074 rfl rfl)
set_option maxRecDepth 100000 in
theorem lk_L_173 : Cond.methodLink RL 173 yX5_aboard ∈ lw_g := (lw_gi 1078 rfl rfl)
set_option maxRecDepth 100000 in
theorem lk_X5_148 : Cond.methodLink RX5 148 yX5_aboardMany ∈ lw_g := (lw_gi 1082 rfl rfl)
set_option maxRecDepth 100000 in
theorem lk_L_176 : Cond.methodLink RL 176 yX5_score ∈ lw_g := (lw_gi 1086 rfl rfl)
set_option maxRecDepth 100000 in
theorem lk_L_179 : Cond.methodLink RL 179 yX5_pass ∈ lw_g := (lw_gi 1090 rfl rfl)
set_option maxRecDepth 100000 in
theorem lk_X5_188 : Cond.methodLink RX5 188 yX5_passesOne ∈ lw_g := (lw_gi 1094 rfl rfl)
set_option maxRecDepth 100000 in
theorem lk_X5_178 : Cond.methodLink RX5 178 yX5_turnNow ∈ lw_g := (lw_gi 1098 rfl rfl)
set_option maxRecDepth 100000 in
theorem lk_X5_175 : Cond.methodLink RX5 175 yX5_isWaiting ∈ lw_g := (lw_gi 1102 rfl rfl)
set_option maxRecDepth 100000 in
theorem lk_X5_182 : Cond.methodLink RX5 182 yX5_works ∈ lw_g := (lw_gi 1106 rfl rfl)
set_option maxRecDepth 100000 in
theorem lk_X5_164 : Cond.methodLink RX5 164 yX5_opens ∈ lw_g := (lw_gi 1110 rfl rfl)
set_option maxRecDepth 100000 in
theorem lk_X5_151 : Cond.methodLink RX5 151 yX5_ends ∈ lw_g := (lw_gi 1114 rfl rfl)
set_option maxRecDepth 100000 in
theorem lk_X5_169 : Cond.methodLink RX5 169 yX5_goes ∈ lw_g := (lw_gi 1118 rfl rfl)
set_option maxRecDepth 100000 in
theorem lk_X5_161 : Cond.methodLink RX5 161 yX5_hasAim ∈ lw_g := (lw_gi 1122 rfl rfl)
set_option maxRecDepth 100000 in
theorem lk_X5_158 : Cond.methodLink RX5 158 yX5_isAim ∈ lw_g := (lw_gi 1126 rfl rfl)
set_option maxRecDepth 100000 in
theorem lk_X5_185 : Cond.methodLink RX5 185 yX5_outMany ∈ lw_g := (lw_gi 1130 rfl rfl)
set_option maxRecDepth 100000 in
theorem lk_L_183 : Cond.methodLink RL 183 yX5_time ∈ lw_g := (lw_gi 1134 rfl rfl)
set_option maxRecDepth 100000 in
theorem lk_L_186 : Cond.methodLink RL 186 yX5_alarm ∈ lw_g := (lw_gi 1138 rfl rfl)
set_option maxRecDepth 100000 in
theorem lk_L_191 : Cond.methodLink RL 191 yX5_isAlarm ∈ lw_g := (lw_gi 1142 rfl rfl)
set_option maxRecDepth 100000 in
theorem lk_L_195 : Cond.methodLink RL 195 yX5_turn ∈ lw_g := (lw_gi 1146 rfl rfl)
set_option maxRecDepth 100000 in
theorem lk_L_199 : Cond.methodLink RL 199 yX5_opened ∈ lw_g := (lw_gi 1150 rfl rfl)
set_option maxRecDepth 100000 in
theorem lk_L_203 : Cond.methodLink RL 203 yX5_refused ∈ lw_g := (lw_gi 1154 rfl rfl)
set_option maxRecDepth 100000 in
theorem lk_L_207 : Cond.methodLink RL 207 yX5_doneShare ∈ lw_g := (lw_gi 1158 rfl rfl)
set_option maxRecDepth 100000 in
theorem lk_L_210 : Cond.methodLink RL 210 yX5_meanWait ∈ lw_g := (lw_gi 1162 rfl rfl)
set_option maxRecDepth 100000 in
theorem fk_Jx4a65c_39 : Cond.fieldLink RJx4a65c 39 RJx4a65c "DEFAULTCAPACITY_EMPTY_ELEMENTDATA" "[Ljava/lang/Object;" ∈ lw_g := (lw_gi 105 rfl rfl)
set_option maxRecDepth 100000 in
theorem fk_Jx4a65c_9 : Cond.fieldLink RJx4a65c 9 RJx4a65c "elementData" "[Ljava/lang/Object;" ∈ lw_g := (lw_gi 107 rfl rfl)
set_option maxRecDepth 100000 in
theorem fk_Jx4a65c_48 : Cond.fieldLink RJx4a65c 48 RJx4a65c "size" "I" ∈ lw_g := (lw_gi 108 rfl rfl)
set_option maxRecDepth 100000 in
theorem fk_Jxc12de_7 : Cond.fieldLink RJxc12de 7 RJxc12de "modCount" "I" ∈ lw_g := (lw_gi 109 rfl rfl)
set_option maxRecDepth 100000 in
theorem fk_Jx4a65c_63 : Cond.fieldLink RJx4a65c 63 RJx4a65c "modCount" "I" ∈ lw_g := (lw_gi 110 rfl rfl)
set_option maxRecDepth 100000 in
theorem fk_X4_9 : Cond.fieldLink RX4 9 RX4 "tenants" "[I" ∈ lw_g := (lw_gi 120 rfl rfl)
set_option maxRecDepth 100000 in
theorem fk_X4_13 : Cond.fieldLink RX4 13 RX4 "firstTimes" "[I" ∈ lw_g := (lw_gi 121 rfl rfl)
set_option maxRecDepth 100000 in
theorem fk_X4_16 : Cond.fieldLink RX4 16 RX4 "endTimes" "[I" ∈ lw_g := (lw_gi 122 rfl rfl)
set_option maxRecDepth 100000 in
theorem fk_X4_22 : Cond.fieldLink RX4 22 RX4 "badges" "Ljava/util/ArrayList;" ∈ lw_g := (lw_gi 123 rfl rfl)
set_option maxRecDepth 100000 in
theorem fk_X4_26 : Cond.fieldLink RX4 26 RX4 "lifts" "Ljava/util/ArrayList;" ∈ lw_g := (lw_gi 124 rfl rfl)
set_option maxRecDepth 100000 in
theorem fk_X4_29 : Cond.fieldLink RX4 29 RX4 "riders" "Ljava/util/ArrayList;" ∈ lw_g := (lw_gi 125 rfl rfl)
set_option maxRecDepth 100000 in
theorem fk_X4_32 : Cond.fieldLink RX4 32 RX4 "present" "Ljava/util/ArrayList;" ∈ lw_g := (lw_gi 126 rfl rfl)
set_option maxRecDepth 100000 in
theorem fk_X4_35 : Cond.fieldLink RX4 35 RX4 "log" "Ljava/util/ArrayList;" ∈ lw_g := (lw_gi 127 rfl rfl)
set_option maxRecDepth 100000 in
theorem fk_X4_38 : Cond.fieldLink RX4 38 RX4 "now" "I" ∈ lw_g := (lw_gi 128 rfl rfl)
set_option maxRecDepth 100000 in
theorem fk_X4_42 : Cond.fieldLink RX4 42 RX4 "alarmFloor" "I" ∈ lw_g := (lw_gi 129 rfl rfl)
set_option maxRecDepth 100000 in
theorem fk_X4_45 : Cond.fieldLink RX4 45 RX4 "openings" "I" ∈ lw_g := (lw_gi 130 rfl rfl)
set_option maxRecDepth 100000 in
theorem fk_X4_48 : Cond.fieldLink RX4 48 RX4 "refusals" "I" ∈ lw_g := (lw_gi 131 rfl rfl)
set_option maxRecDepth 100000 in
theorem fk_X2_26 : Cond.fieldLink RX2 26 RX2 "number" "I" ∈ lw_g := (lw_gi 284 rfl rfl)
set_option maxRecDepth 100000 in
theorem fk_X2_29 : Cond.fieldLink RX2 29 RX2 "capacity" "I" ∈ lw_g := (lw_gi 286 rfl rfl)
set_option maxRecDepth 100000 in
theorem fk_X2_9 : Cond.fieldLink RX2 9 RX2 "floor" "I" ∈ lw_g := (lw_gi 288 rfl rfl)
set_option maxRecDepth 100000 in
theorem fk_X2_15 : Cond.fieldLink RX2 15 RX2 "isUp" "Z" ∈ lw_g := (lw_gi 290 rfl rfl)
set_option maxRecDepth 100000 in
theorem fk_X2_19 : Cond.fieldLink RX2 19 RX2 "service" "C" ∈ lw_g := (lw_gi 292 rfl rfl)
set_option maxRecDepth 100000 in
theorem fk_X2_23 : Cond.fieldLink RX2 23 RX2 "cleaningLeft" "I" ∈ lw_g := (lw_gi 294 rfl rfl)
set_option maxRecDepth 100000 in
theorem fk_X0_13 : Cond.fieldLink RX0 13 RX0 "tenant" "I" ∈ lw_g := (lw_gi 437 rfl rfl)
set_option maxRecDepth 100000 in
theorem fk_X0_7 : Cond.fieldLink RX0 7 RX0 "isRevoked" "Z" ∈ lw_g := (lw_gi 439 rfl rfl)
set_option maxRecDepth 100000 in
theorem fk_X3_23 : Cond.fieldLink RX3 23 RX3 "number" "I" ∈ lw_g := (lw_gi 522 rfl rfl)
set_option maxRecDepth 100000 in
theorem fk_X3_26 : Cond.fieldLink RX3 26 RX3 "badge" "LLiftDesk$Badge;" ∈ lw_g := (lw_gi 524 rfl rfl)
set_option maxRecDepth 100000 in
theorem fk_X3_30 : Cond.fieldLink RX3 30 RX3 "floor" "I" ∈ lw_g := (lw_gi 526 rfl rfl)
set_option maxRecDepth 100000 in
theorem fk_X3_33 : Cond.fieldLink RX3 33 RX3 "aim" "I" ∈ lw_g := (lw_gi 528 rfl rfl)
set_option maxRecDepth 100000 in
theorem fk_X3_9 : Cond.fieldLink RX3 9 RX3 "state" "C" ∈ lw_g := (lw_gi 530 rfl rfl)
set_option maxRecDepth 100000 in
theorem fk_X3_15 : Cond.fieldLink RX3 15 RX3 "lift" "LLiftDesk$Lift;" ∈ lw_g := (lw_gi 532 rfl rfl)
set_option maxRecDepth 100000 in
theorem fk_X3_19 : Cond.fieldLink RX3 19 RX3 "waited" "I" ∈ lw_g := (lw_gi 534 rfl rfl)
set_option maxRecDepth 100000 in
theorem fk_X1_7 : Cond.fieldLink RX1 7 RX1 "rider" "I" ∈ lw_g := (lw_gi 561 rfl rfl)
set_option maxRecDepth 100000 in
theorem fk_X1_13 : Cond.fieldLink RX1 13 RX1 "state" "C" ∈ lw_g := (lw_gi 563 rfl rfl)
set_option maxRecDepth 100000 in
theorem fk_X1_17 : Cond.fieldLink RX1 17 RX1 "time" "I" ∈ lw_g := (lw_gi 565 rfl rfl)
set_option maxRecDepth 100000 in
theorem fk_X5_1 : Cond.fieldLink RX5 1 RX5 "thrown" "I" ∈ lw_g := (lw_gi 859 rfl rfl)
set_option maxRecDepth 100000 in
theorem fk_X5_17 : Cond.fieldLink RX5 17 RX5 "tenants" "[I" ∈ lw_g := (lw_gi 860 rfl rfl)
set_option maxRecDepth 100000 in
theorem fk_X5_21 : Cond.fieldLink RX5 21 RX5 "opens" "[I" ∈ lw_g := (lw_gi 861 rfl rfl)
set_option maxRecDepth 100000 in
theorem fk_X5_24 : Cond.fieldLink RX5 24 RX5 "closes" "[I" ∈ lw_g := (lw_gi 862 rfl rfl)
set_option maxRecDepth 100000 in
theorem fk_X5_27 : Cond.fieldLink RX5 27 RX5 "badgeTenants" "[I" ∈ lw_g := (lw_gi 863 rfl rfl)
set_option maxRecDepth 100000 in
theorem fk_X5_30 : Cond.fieldLink RX5 30 RX5 "isRevoked" "[Z" ∈ lw_g := (lw_gi 864 rfl rfl)
set_option maxRecDepth 100000 in
theorem fk_X5_71 : Cond.fieldLink RX5 71 RX5 "badges" "I" ∈ lw_g := (lw_gi 865 rfl rfl)
set_option maxRecDepth 100000 in
theorem fk_X5_34 : Cond.fieldLink RX5 34 RX5 "badgeOf" "[I" ∈ lw_g := (lw_gi 866 rfl rfl)
set_option maxRecDepth 100000 in
theorem fk_X5_37 : Cond.fieldLink RX5 37 RX5 "at" "[I" ∈ lw_g := (lw_gi 867 rfl rfl)
set_option maxRecDepth 100000 in
theorem fk_X5_40 : Cond.fieldLink RX5 40 RX5 "aims" "[I" ∈ lw_g := (lw_gi 868 rfl rfl)
set_option maxRecDepth 100000 in
theorem fk_X5_43 : Cond.fieldLink RX5 43 RX5 "lifts" "[I" ∈ lw_g := (lw_gi 869 rfl rfl)
set_option maxRecDepth 100000 in
theorem fk_X5_46 : Cond.fieldLink RX5 46 RX5 "calledAt" "[I" ∈ lw_g := (lw_gi 870 rfl rfl)
set_option maxRecDepth 100000 in
theorem fk_X5_49 : Cond.fieldLink RX5 49 RX5 "wentAt" "[I" ∈ lw_g := (lw_gi 871 rfl rfl)
set_option maxRecDepth 100000 in
theorem fk_X5_52 : Cond.fieldLink RX5 52 RX5 "states" "[C" ∈ lw_g := (lw_gi 872 rfl rfl)
set_option maxRecDepth 100000 in
theorem fk_X5_74 : Cond.fieldLink RX5 74 RX5 "riders" "I" ∈ lw_g := (lw_gi 873 rfl rfl)
set_option maxRecDepth 100000 in
theorem fk_X5_110 : Cond.fieldLink RX5 110 RX5 "entries" "I" ∈ lw_g := (lw_gi 874 rfl rfl)
set_option maxRecDepth 100000 in
theorem fk_X5_113 : Cond.fieldLink RX5 113 RX5 "done" "I" ∈ lw_g := (lw_gi 875 rfl rfl)
set_option maxRecDepth 100000 in
theorem fk_X5_56 : Cond.fieldLink RX5 56 RX5 "rooms" "[I" ∈ lw_g := (lw_gi 876 rfl rfl)
set_option maxRecDepth 100000 in
theorem fk_X5_59 : Cond.fieldLink RX5 59 RX5 "where" "[I" ∈ lw_g := (lw_gi 877 rfl rfl)
set_option maxRecDepth 100000 in
theorem fk_X5_62 : Cond.fieldLink RX5 62 RX5 "left" "[I" ∈ lw_g := (lw_gi 878 rfl rfl)
set_option maxRecDepth 100000 in
theorem fk_X5_65 : Cond.fieldLink RX5 65 RX5 "services" "[C" ∈ lw_g := (lw_gi 879 rfl rfl)
set_option maxRecDepth 100000 in
theorem fk_X5_68 : Cond.fieldLink RX5 68 RX5 "isUp" "[Z" ∈ lw_g := (lw_gi 880 rfl rfl)
set_option maxRecDepth 100000 in
theorem fk_X5_77 : Cond.fieldLink RX5 77 RX5 "liftMany" "I" ∈ lw_g := (lw_gi 881 rfl rfl)
set_option maxRecDepth 100000 in
theorem fk_X5_91 : Cond.fieldLink RX5 91 RX5 "time" "I" ∈ lw_g := (lw_gi 882 rfl rfl)
set_option maxRecDepth 100000 in
theorem fk_X5_166 : Cond.fieldLink RX5 166 RX5 "opened" "I" ∈ lw_g := (lw_gi 883 rfl rfl)
set_option maxRecDepth 100000 in
theorem fk_X5_155 : Cond.fieldLink RX5 155 RX5 "refused" "I" ∈ lw_g := (lw_gi 884 rfl rfl)
set_option maxRecDepth 100000 in
theorem fk_X5_172 : Cond.fieldLink RX5 172 RX5 "alarmFloor" "I" ∈ lw_g := (lw_gi 885 rfl rfl)
set_option maxRecDepth 100000 in
theorem fk_X5_119 : Cond.fieldLink RX5 119 RX5 "isAlarm" "Z" ∈ lw_g := (lw_gi 886 rfl rfl)
set_option maxRecDepth 100000 in
theorem fn_X4_76 : Cond.fieldLinkNest RX4 76 RX2 "number" "I" RX4 ∈ lw_n := lw_ni 285 rfl rfl
set_option maxRecDepth 100000 in
theorem fn_X4_235 : Cond.fieldLinkNest RX4 235 RX2 "capacity" "I" RX4 ∈ lw_n := lw_ni 287 rfl rfl
set_option maxRecDepth 100000 in
theorem fn_X4_148 : Cond.fieldLinkNest RX4 148 RX2 "floor" "I" RX4 ∈ lw_n := lw_ni 289 rfl rfl
set_option maxRecDepth 100000 in
theorem fn_X4_180 : Cond.fieldLinkNest RX4 180 RX2 "isUp" "Z" RX4 ∈ lw_n := lw_ni 291 rfl rfl
set_option maxRecDepth 100000 in
theorem fn_X4_171 : Cond.fieldLinkNest RX4 171 RX2 "service" "C" RX4 ∈ lw_n := lw_ni 293 rfl rfl
set_option maxRecDepth 100000 in
theorem fn_X4_301 : Cond.fieldLinkNest RX4 301 RX2 "cleaningLeft" "I" RX4 ∈ lw_n := lw_ni 295 rfl rfl
set_option maxRecDepth 100000 in
theorem fn_X4_224 : Cond.fieldLinkNest RX4 224 RX0 "tenant" "I" RX4 ∈ lw_n := lw_ni 438 rfl rfl
set_option maxRecDepth 100000 in
theorem fn_X4_99 : Cond.fieldLinkNest RX4 99 RX0 "isRevoked" "Z" RX4 ∈ lw_n := lw_ni 440 rfl rfl
set_option maxRecDepth 100000 in
theorem fn_X4_135 : Cond.fieldLinkNest RX4 135 RX3 "number" "I" RX4 ∈ lw_n := lw_ni 523 rfl rfl
set_option maxRecDepth 100000 in
theorem fn_X4_227 : Cond.fieldLinkNest RX4 227 RX3 "badge" "LLiftDesk$Badge;" RX4 ∈ lw_n := lw_ni 525 rfl rfl
set_option maxRecDepth 100000 in
theorem fn_X4_151 : Cond.fieldLinkNest RX4 151 RX3 "floor" "I" RX4 ∈ lw_n := lw_ni 527 rfl rfl
set_option maxRecDepth 100000 in
theorem fn_X4_152 : Cond.fieldLinkNest RX4 152 RX3 "aim" "I" RX4 ∈ lw_n := lw_ni 529 rfl rfl
set_option maxRecDepth 100000 in
theorem fn_X4_140 : Cond.fieldLinkNest RX4 140 RX3 "state" "C" RX4 ∈ lw_n := lw_ni 531 rfl rfl
set_option maxRecDepth 100000 in
theorem fn_X4_144 : Cond.fieldLinkNest RX4 144 RX3 "lift" "LLiftDesk$Lift;" RX4 ∈ lw_n := lw_ni 533 rfl rfl
set_option maxRecDepth 100000 in
theorem fn_X4_160 : Cond.fieldLinkNest RX4 160 RX3 "waited" "I" RX4 ∈ lw_n := lw_ni 535 rfl rfl
set_option maxRecDepth 100000 in
theorem fn_X4_243 : Cond.fieldLinkNest RX4 243 RX1 "rider" "I" RX4 ∈ lw_n := lw_ni 562 rfl rfl
set_option maxRecDepth 100000 in
theorem fn_X4_246 : Cond.fieldLinkNest RX4 246 RX1 "state" "C" RX4 ∈ lw_n := lw_ni 564 rfl rfl
set_option maxRecDepth 100000 in
theorem fn_X4_247 : Cond.fieldLinkNest RX4 247 RX1 "time" "I" RX4 ∈ lw_n := lw_ni 566 rfl rfl
set_option maxRecDepth 100000 in
theorem mn_X4_69 : Cond.methodLinkNest RX4 69 yX2_init RX4 ∈ lw_n := lw_ni 280 rfl rfl
set_option maxRecDepth 100000 in
theorem mn_X4_92 : Cond.methodLinkNest RX4 92 yX0_init RX4 ∈ lw_n := lw_ni 433 rfl rfl
set_option maxRecDepth 100000 in
theorem mn_X4_125 : Cond.methodLinkNest RX4 125 yX3_init RX4 ∈ lw_n := lw_ni 518 rfl rfl
set_option maxRecDepth 100000 in
theorem mn_X4_240 : Cond.methodLinkNest RX4 240 yX1_init RX4 ∈ lw_n := lw_ni 557 rfl rfl
set_option maxRecDepth 100000 in
theorem mn_X4_256 : Cond.methodLinkNest RX4 256 yX3_waitsFor RX4 ∈ lw_n := lw_ni 670 rfl rfl
set_option maxRecDepth 100000 in
theorem mn_X4_231 : Cond.methodLinkNest RX4 231 yX3_isIn RX4 ∈ lw_n := lw_ni 706 rfl rfl
set_option maxRecDepth 100000 in
theorem mn_X4_272 : Cond.methodLinkNest RX4 272 yX2_cleanForOneTick RX4 ∈ lw_n := lw_ni 749 rfl rfl
set_option maxRecDepth 100000 in
theorem kl_L_8 : Cond.classLink RL 8 RX4 ∈ lw_g := (lw_gi 85 rfl rfl)
set_option maxRecDepth 100000 in
theorem kl_X4_19 : Cond.classLink RX4 19 RJx4a65c ∈ lw_g := (lw_gi 93 rfl rfl)
set_option maxRecDepth 100000 in
theorem kl_L_13 : Cond.classLink RL 13 "java/lang/IllegalArgumentException" ∈ lw_g := (lw_gi 184 rfl rfl)
set_option maxRecDepth 100000 in
theorem kl_L_15 : Cond.classLink RL 15 "java/lang/IllegalStateException" ∈ lw_g := (lw_gi 185 rfl rfl)
set_option maxRecDepth 100000 in
theorem kl_X4_51 : Cond.classLink RX4 51 "java/lang/IllegalArgumentException" ∈ lw_g := (lw_gi 190 rfl rfl)
set_option maxRecDepth 100000 in
theorem kl_X4_62 : Cond.classLink RX4 62 "java/lang/IllegalStateException" ∈ lw_g := (lw_gi 262 rfl rfl)
set_option maxRecDepth 100000 in
theorem kl_X4_67 : Cond.classLink RX4 67 RX2 ∈ lw_g := (lw_gi 278 rfl rfl)
set_option maxRecDepth 100000 in
theorem kl_J7_110 : Cond.classLink RJ7 110 "[Ljava/lang/Object;" ∈ lw_g := (lw_gi 359 rfl rfl)
set_option maxRecDepth 100000 in
theorem kl_J7_2 : Cond.classLink RJ7 2 "java/lang/Object" ∈ lw_g := (lw_gi 361 rfl rfl)
set_option maxRecDepth 100000 in
theorem kl_Jx4a65c_7 : Cond.classLink RJx4a65c 7 "java/lang/Object" ∈ lw_g := (lw_gi 369 rfl rfl)
set_option maxRecDepth 100000 in
theorem kl_L_21 : Cond.classLink RL 21 "java/lang/IndexOutOfBoundsException" ∈ lw_g := (lw_gi 373 rfl rfl)
set_option maxRecDepth 100000 in
theorem kl_X4_79 : Cond.classLink RX4 79 "java/lang/IndexOutOfBoundsException" ∈ lw_g := (lw_gi 401 rfl rfl)
set_option maxRecDepth 100000 in
theorem kl_X4_90 : Cond.classLink RX4 90 RX0 ∈ lw_g := (lw_gi 431 rfl rfl)
set_option maxRecDepth 100000 in
theorem kl_L_41 : Cond.classLink RL 41 "java/lang/UnsupportedOperationException" ∈ lw_g := (lw_gi 489 rfl rfl)
set_option maxRecDepth 100000 in
theorem kl_X4_112 : Cond.classLink RX4 112 "java/lang/UnsupportedOperationException" ∈ lw_g := (lw_gi 495 rfl rfl)
set_option maxRecDepth 100000 in
theorem kl_X4_123 : Cond.classLink RX4 123 RX3 ∈ lw_g := (lw_gi 515 rfl rfl)
set_option maxRecDepth 100000 in
theorem kl_X4_238 : Cond.classLink RX4 238 RX1 ∈ lw_g := (lw_gi 555 rfl rfl)
set_option maxRecDepth 100000 in
theorem kl_L_56 : Cond.classLink RL 56 "java/util/NoSuchElementException" ∈ lw_g := (lw_gi 614 rfl rfl)
set_option maxRecDepth 100000 in
theorem kl_X4_155 : Cond.classLink RX4 155 "java/util/NoSuchElementException" ∈ lw_g := (lw_gi 619 rfl rfl)
set_option maxRecDepth 100000 in
theorem kl_L_97 : Cond.classLink RL 97 "java/lang/ArithmeticException" ∈ lw_g := (lw_gi 821 rfl rfl)
set_option maxRecDepth 100000 in
theorem kl_X4_209 : Cond.classLink RX4 209 "java/lang/ArithmeticException" ∈ lw_g := (lw_gi 839 rfl rfl)
set_option maxRecDepth 100000 in
theorem kl_L_104 : Cond.classLink RL 104 RX5 ∈ lw_g := (lw_gi 853 rfl rfl)
set_option maxRecDepth 100000 in
theorem is_X4 : Cond.instantiable RX4 12 ∈ lw_g := (lw_gi 86 rfl rfl)
set_option maxRecDepth 100000 in
theorem is_Jx4a65c : Cond.instantiable RJx4a65c 3 ∈ lw_g := (lw_gi 94 rfl rfl)
set_option maxRecDepth 100000 in
theorem is_X2 : Cond.instantiable RX2 6 ∈ lw_g := (lw_gi 279 rfl rfl)
set_option maxRecDepth 100000 in
theorem is_Jx00060 : Cond.instantiable RJx00060 6 ∈ lw_g := (lw_gi 374 rfl rfl)
set_option maxRecDepth 100000 in
theorem is_J0 : Cond.instantiable RJ0 4 ∈ lw_g := (lw_gi 392 rfl rfl)
set_option maxRecDepth 100000 in
theorem is_X0 : Cond.instantiable RX0 2 ∈ lw_g := (lw_gi 432 rfl rfl)
set_option maxRecDepth 100000 in
theorem is_X3 : Cond.instantiable RX3 7 ∈ lw_g := (lw_gi 517 rfl rfl)
set_option maxRecDepth 100000 in
theorem is_X1 : Cond.instantiable RX1 3 ∈ lw_g := (lw_gi 556 rfl rfl)
set_option maxRecDepth 100000 in
theorem is_X5 : Cond.instantiable RX5 28 ∈ lw_g := (lw_gi 854 rfl rfl)
set_option maxRecDepth 100000 in
theorem in_L : Cond.initialized RL ∈ lw_g := (lw_gi 58 rfl rfl)
set_option maxRecDepth 100000 in
theorem in_X4 : Cond.initialized RX4 ∈ lw_g := (lw_gi 59 rfl rfl)
set_option maxRecDepth 100000 in
theorem in_Jxa1e45 : Cond.initialized RJxa1e45 ∈ lw_g := (lw_gi 60 rfl rfl)
set_option maxRecDepth 100000 in
theorem in_Jxc12de : Cond.initialized RJxc12de ∈ lw_g := (lw_gi 61 rfl rfl)
set_option maxRecDepth 100000 in
theorem in_Jx4a65c : Cond.initialized RJx4a65c ∈ lw_g := (lw_gi 62 rfl rfl)
set_option maxRecDepth 100000 in
theorem in_X5 : Cond.initialized RX5 ∈ lw_g := (lw_gi 63 rfl rfl)
set_option maxRecDepth 100000 in
theorem in_java_lang_Throwable : Cond.initialized "java/lang/Throwable" ∈ lw_g := (lw_gi 64 rfl rfl)
set_option maxRecDepth 100000 in
theorem in_java_lang_Exception : Cond.initialized "java/lang/Exception" ∈ lw_g := (lw_gi 65 rfl rfl)
set_option maxRecDepth 100000 in
theorem in_java_lang_RuntimeException : Cond.initialized "java/lang/RuntimeException" ∈ lw_g := (lw_gi 66 rfl rfl)
set_option maxRecDepth 100000 in
theorem in_java_lang_IllegalArgumentException : Cond.initialized "java/lang/IllegalArgumentException" ∈ lw_g := (lw_gi 67 rfl rfl)
set_option maxRecDepth 100000 in
theorem in_java_lang_IllegalStateException : Cond.initialized "java/lang/IllegalStateException" ∈ lw_g := (lw_gi 68 rfl rfl)
set_option maxRecDepth 100000 in
theorem in_X2 : Cond.initialized RX2 ∈ lw_g := (lw_gi 69 rfl rfl)
set_option maxRecDepth 100000 in
theorem in_J8 : Cond.initialized RJ8 ∈ lw_g := (lw_gi 70 rfl rfl)
set_option maxRecDepth 100000 in
theorem in_J9 : Cond.initialized RJ9 ∈ lw_g := (lw_gi 71 rfl rfl)
set_option maxRecDepth 100000 in
theorem in_J7 : Cond.initialized RJ7 ∈ lw_g := (lw_gi 72 rfl rfl)
set_option maxRecDepth 100000 in
theorem in_J10 : Cond.initialized RJ10 ∈ lw_g := (lw_gi 73 rfl rfl)
set_option maxRecDepth 100000 in
theorem in_java_lang_IndexOutOfBoundsException : Cond.initialized "java/lang/IndexOutOfBoundsException" ∈ lw_g := (lw_gi 74 rfl rfl)
set_option maxRecDepth 100000 in
theorem in_Jx00060 : Cond.initialized RJx00060 ∈ lw_g := (lw_gi 75 rfl rfl)
set_option maxRecDepth 100000 in
theorem in_J0 : Cond.initialized RJ0 ∈ lw_g := (lw_gi 76 rfl rfl)
set_option maxRecDepth 100000 in
theorem in_X0 : Cond.initialized RX0 ∈ lw_g := (lw_gi 77 rfl rfl)
set_option maxRecDepth 100000 in
theorem in_J15 : Cond.initialized RJ15 ∈ lw_g := (lw_gi 78 rfl rfl)
set_option maxRecDepth 100000 in
theorem in_J3 : Cond.initialized RJ3 ∈ lw_g := (lw_gi 79 rfl rfl)
set_option maxRecDepth 100000 in
theorem in_java_lang_UnsupportedOperationException : Cond.initialized "java/lang/UnsupportedOperationException" ∈ lw_g := (lw_gi 80 rfl rfl)
set_option maxRecDepth 100000 in
theorem in_X3 : Cond.initialized RX3 ∈ lw_g := (lw_gi 81 rfl rfl)
set_option maxRecDepth 100000 in
theorem in_X1 : Cond.initialized RX1 ∈ lw_g := (lw_gi 82 rfl rfl)
set_option maxRecDepth 100000 in
theorem in_java_util_NoSuchElementException : Cond.initialized "java/util/NoSuchElementException" ∈ lw_g := (lw_gi 83 rfl rfl)
set_option maxRecDepth 100000 in
theorem in_java_lang_ArithmeticException : Cond.initialized "java/lang/ArithmeticException" ∈ lw_g := (lw_gi 84 rfl rfl)
set_option maxRecDepth 100000 in
theorem ly_X5 : ∀ w ∈ u_ws RX5 TX5 28, w ∈ lw_g := by
  intro w hw
  obtain ⟨k, hk, rfl⟩ := List.mem_map.mp hw
  have hk := List.mem_range.mp hk
  match k, hk with
  | 0, _ => exact (lw_gi 887 rfl rfl)
  | 1, _ => exact (lw_gi 889 rfl rfl)
  | 2, _ => exact (lw_gi 891 rfl rfl)
  | 3, _ => exact (lw_gi 893 rfl rfl)
  | 4, _ => exact (lw_gi 895 rfl rfl)
  | 5, _ => exact (lw_gi 897 rfl rfl)
  | 6, _ => exact (lw_gi 899 rfl rfl)
  | 7, _ => exact (lw_gi 901 rfl rfl)
  | 8, _ => exact (lw_gi 903 rfl rfl)
  | 9, _ => exact (lw_gi 905 rfl rfl)
  | 10, _ => exact (lw_gi 907 rfl rfl)
  | 11, _ => exact (lw_gi 909 rfl rfl)
  | 12, _ => exact (lw_gi 911 rfl rfl)
  | 13, _ => exact (lw_gi 913 rfl rfl)
  | 14, _ => exact (lw_gi 915 rfl rfl)
  | 15, _ => exact (lw_gi 917 rfl rfl)
  | 16, _ => exact (lw_gi 919 rfl rfl)
  | 17, _ => exact (lw_gi 921 rfl rfl)
  | 18, _ => exact (lw_gi 923 rfl rfl)
  | 19, _ => exact (lw_gi 925 rfl rfl)
  | 20, _ => exact (lw_gi 927 rfl rfl)
  | 21, _ => exact (lw_gi 929 rfl rfl)
  | 22, _ => exact (lw_gi 931 rfl rfl)
  | 23, _ => exact (lw_gi 933 rfl rfl)
  | 24, _ => exact (lw_gi 935 rfl rfl)
  | 25, _ => exact (lw_gi 937 rfl rfl)
  | 26, _ => exact (lw_gi 939 rfl rfl)
  | 27, _ => exact (lw_gi 941 rfl rfl)
  | j + 28, h => exact absurd h (by omega)
set_option maxRecDepth 100000 in
theorem ly_X4 : ∀ w ∈ u_ws RX4 TX4 12, w ∈ lw_g := by
  intro w hw
  obtain ⟨k, hk, rfl⟩ := List.mem_map.mp hw
  have hk := List.mem_range.mp hk
  match k, hk with
  | 0, _ => exact (lw_gi 132 rfl rfl)
  | 1, _ => exact (lw_gi 134 rfl rfl)
  | 2, _ => exact (lw_gi 136 rfl rfl)
  | 3, _ => exact (lw_gi 138 rfl rfl)
  | 4, _ => exact (lw_gi 140 rfl rfl)
  | 5, _ => exact (lw_gi 142 rfl rfl)
  | 6, _ => exact (lw_gi 144 rfl rfl)
  | 7, _ => exact (lw_gi 146 rfl rfl)
  | 8, _ => exact (lw_gi 148 rfl rfl)
  | 9, _ => exact (lw_gi 150 rfl rfl)
  | 10, _ => exact (lw_gi 152 rfl rfl)
  | 11, _ => exact (lw_gi 154 rfl rfl)
  | j + 12, h => exact absurd h (by omega)
set_option maxRecDepth 100000 in
theorem ly_X0 : ∀ w ∈ u_ws RX0 TX0 2, w ∈ lw_g := by
  intro w hw
  obtain ⟨k, hk, rfl⟩ := List.mem_map.mp hw
  have hk := List.mem_range.mp hk
  match k, hk with
  | 0, _ => exact (lw_gi 441 rfl rfl)
  | 1, _ => exact (lw_gi 443 rfl rfl)
  | j + 2, h => exact absurd h (by omega)
set_option maxRecDepth 100000 in
theorem ly_X2 : ∀ w ∈ u_ws RX2 TX2 6, w ∈ lw_g := by
  intro w hw
  obtain ⟨k, hk, rfl⟩ := List.mem_map.mp hw
  have hk := List.mem_range.mp hk
  match k, hk with
  | 0, _ => exact (lw_gi 296 rfl rfl)
  | 1, _ => exact (lw_gi 298 rfl rfl)
  | 2, _ => exact (lw_gi 300 rfl rfl)
  | 3, _ => exact (lw_gi 302 rfl rfl)
  | 4, _ => exact (lw_gi 304 rfl rfl)
  | 5, _ => exact (lw_gi 306 rfl rfl)
  | j + 6, h => exact absurd h (by omega)
set_option maxRecDepth 100000 in
theorem ly_X3 : ∀ w ∈ u_ws RX3 TX3 7, w ∈ lw_g := by
  intro w hw
  obtain ⟨k, hk, rfl⟩ := List.mem_map.mp hw
  have hk := List.mem_range.mp hk
  match k, hk with
  | 0, _ => exact (lw_gi 536 rfl rfl)
  | 1, _ => exact (lw_gi 538 rfl rfl)
  | 2, _ => exact (lw_gi 540 rfl rfl)
  | 3, _ => exact (lw_gi 542 rfl rfl)
  | 4, _ => exact (lw_gi 544 rfl rfl)
  | 5, _ => exact (lw_gi 546 rfl rfl)
  | 6, _ => exact (lw_gi 548 rfl rfl)
  | j + 7, h => exact absurd h (by omega)
set_option maxRecDepth 100000 in
theorem ly_X1 : ∀ w ∈ u_ws RX1 TX1 3, w ∈ lw_g := by
  intro w hw
  obtain ⟨k, hk, rfl⟩ := List.mem_map.mp hw
  have hk := List.mem_range.mp hk
  match k, hk with
  | 0, _ => exact (lw_gi 567 rfl rfl)
  | 1, _ => exact (lw_gi 569 rfl rfl)
  | 2, _ => exact (lw_gi 571 rfl rfl)
  | j + 3, h => exact absurd h (by omega)
set_option maxRecDepth 100000 in
theorem ly_Jx4a65c : ∀ w ∈ u_ws RJx4a65c TJx4a65c 3, w ∈ lw_g := by
  intro w hw
  obtain ⟨k, hk, rfl⟩ := List.mem_map.mp hw
  have hk := List.mem_range.mp hk
  match k, hk with
  | 0, _ => exact (lw_gi 116 rfl rfl)
  | 1, _ => exact (lw_gi 112 rfl rfl)
  | 2, _ => exact (lw_gi 114 rfl rfl)
  | j + 3, h => exact absurd h (by omega)
set_option maxRecDepth 100000 in
theorem st_abs : Cond.static Lib.Math.abs.name ∈ lw_g := lw_gi 583 rfl rfl
set_option maxRecDepth 100000 in
theorem cd_abs : Cond.code Lib.Math.abs.name Lib.Math.abs.code 1 (some .int) ∈ lw_g := lw_gi 584 rfl rfl
set_option maxRecDepth 100000 in
theorem st_max : Cond.static Lib.Math.max.name ∈ lw_g := lw_gi 329 rfl rfl
set_option maxRecDepth 100000 in
theorem cd_max : Cond.code Lib.Math.max.name Lib.Math.max.code 2 (some .int) ∈ lw_g := lw_gi 330 rfl rfl
set_option maxRecDepth 100000 in
theorem st_min : Cond.static Lib.Math.min.name ∈ lw_g := lw_gi 363 rfl rfl
set_option maxRecDepth 100000 in
theorem cd_min : Cond.code Lib.Math.min.name Lib.Math.min.code 2 (some .int) ∈ lw_g := lw_gi 364 rfl rfl
set_option maxRecDepth 100000 in
theorem ca_X2 : Cond.castable RX2 "java/lang/Object" ∈ lw_n := lw_ni 1175 rfl rfl
set_option maxRecDepth 100000 in
theorem ca_X0 : Cond.castable RX0 "java/lang/Object" ∈ lw_n := lw_ni 1178 rfl rfl
set_option maxRecDepth 100000 in
theorem ca_X3 : Cond.castable RX3 "java/lang/Object" ∈ lw_n := lw_ni 1180 rfl rfl
set_option maxRecDepth 100000 in
theorem ca_X1 : Cond.castable RX1 "java/lang/Object" ∈ lw_n := lw_ni 1181 rfl rfl
