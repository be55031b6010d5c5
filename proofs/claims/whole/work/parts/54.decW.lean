theorem dL_addLift_0 : decode cL_addLift 0 = .ok (.aload_n 2, 1) := by decide +kernel
theorem dL_addLift_1 : decode cL_addLift 1 = .ok (.iconst 0, 1) := by decide +kernel
theorem dL_addLift_2 : decode cL_addLift 2 = .ok (.aload_n 0, 1) := by decide +kernel
theorem dL_addLift_3 : decode cL_addLift 3 = .ok (.iload_n 1, 1) := by decide +kernel
theorem dL_addLift_4 : decode cL_addLift 4 = .ok (.invokevirtual 7, 3) := by decide +kernel
theorem dL_addLift_7 : decode cL_addLift 7 = .ok (.i2l, 1) := by decide +kernel
theorem dL_addLift_8 : decode cL_addLift 8 = .ok (.lastore, 1) := by decide +kernel
theorem dL_addLift_9 : decode cL_addLift 9 = .ok (.goto 9, 3) := by decide +kernel
theorem dL_addLift_12 : decode cL_addLift 12 = .ok (.astore_n 3, 1) := by decide +kernel
theorem dL_addLift_13 : decode cL_addLift 13 = .ok (.iconst 1, 1) := by decide +kernel
theorem dL_addLift_14 : decode cL_addLift 14 = .ok (.ireturn, 1) := by decide +kernel
theorem dL_addLift_15 : decode cL_addLift 15 = .ok (.astore_n 3, 1) := by decide +kernel
theorem dL_addLift_16 : decode cL_addLift 16 = .ok (.iconst 2, 1) := by decide +kernel
theorem dL_addLift_17 : decode cL_addLift 17 = .ok (.ireturn, 1) := by decide +kernel
theorem dL_addLift_18 : decode cL_addLift 18 = .ok (.iconst 0, 1) := by decide +kernel
theorem dL_addLift_19 : decode cL_addLift 19 = .ok (.ireturn, 1) := by decide +kernel
theorem dL_setTenant_0 : decode cL_setTenant 0 = .ok (.aload_n 3, 1) := by decide +kernel
theorem dL_setTenant_1 : decode cL_setTenant 1 = .ok (.iconst 0, 1) := by decide +kernel
theorem dL_setTenant_2 : decode cL_setTenant 2 = .ok (.aload_n 0, 1) := by decide +kernel
theorem dL_setTenant_3 : decode cL_setTenant 3 = .ok (.iload_n 1, 1) := by decide +kernel
theorem dL_setTenant_4 : decode cL_setTenant 4 = .ok (.iload_n 2, 1) := by decide +kernel
theorem dL_setTenant_5 : decode cL_setTenant 5 = .ok (.invokevirtual 17, 3) := by decide +kernel
theorem dL_setTenant_8 : decode cL_setTenant 8 = .ok (.i2l, 1) := by decide +kernel
theorem dL_setTenant_9 : decode cL_setTenant 9 = .ok (.lastore, 1) := by decide +kernel
theorem dL_setTenant_10 : decode cL_setTenant 10 = .ok (.goto 11, 3) := by decide +kernel
theorem dL_setTenant_13 : decode cL_setTenant 13 = .ok (.astore 4, 2) := by decide +kernel
theorem dL_setTenant_15 : decode cL_setTenant 15 = .ok (.iconst 1, 1) := by decide +kernel
theorem dL_setTenant_16 : decode cL_setTenant 16 = .ok (.ireturn, 1) := by decide +kernel
theorem dL_setTenant_17 : decode cL_setTenant 17 = .ok (.astore 4, 2) := by decide +kernel
theorem dL_setTenant_19 : decode cL_setTenant 19 = .ok (.iconst 2, 1) := by decide +kernel
theorem dL_setTenant_20 : decode cL_setTenant 20 = .ok (.ireturn, 1) := by decide +kernel
theorem dL_setTenant_21 : decode cL_setTenant 21 = .ok (.iconst 0, 1) := by decide +kernel
theorem dL_setTenant_22 : decode cL_setTenant 22 = .ok (.ireturn, 1) := by decide +kernel
theorem dL_setHours_0 : decode cL_setHours 0 = .ok (.aload 4, 2) := by decide +kernel
theorem dL_setHours_2 : decode cL_setHours 2 = .ok (.iconst 0, 1) := by decide +kernel
theorem dL_setHours_3 : decode cL_setHours 3 = .ok (.aload_n 0, 1) := by decide +kernel
theorem dL_setHours_4 : decode cL_setHours 4 = .ok (.iload_n 1, 1) := by decide +kernel
theorem dL_setHours_5 : decode cL_setHours 5 = .ok (.iload_n 2, 1) := by decide +kernel
theorem dL_setHours_6 : decode cL_setHours 6 = .ok (.iload_n 3, 1) := by decide +kernel
theorem dL_setHours_7 : decode cL_setHours 7 = .ok (.invokevirtual 23, 3) := by decide +kernel
theorem dL_setHours_10 : decode cL_setHours 10 = .ok (.i2l, 1) := by decide +kernel
theorem dL_setHours_11 : decode cL_setHours 11 = .ok (.lastore, 1) := by decide +kernel
theorem dL_setHours_12 : decode cL_setHours 12 = .ok (.goto 11, 3) := by decide +kernel
theorem dL_setHours_15 : decode cL_setHours 15 = .ok (.astore 5, 2) := by decide +kernel
theorem dL_setHours_17 : decode cL_setHours 17 = .ok (.iconst 1, 1) := by decide +kernel
theorem dL_setHours_18 : decode cL_setHours 18 = .ok (.ireturn, 1) := by decide +kernel
theorem dL_setHours_19 : decode cL_setHours 19 = .ok (.astore 5, 2) := by decide +kernel
theorem dL_setHours_21 : decode cL_setHours 21 = .ok (.iconst 2, 1) := by decide +kernel
theorem dL_setHours_22 : decode cL_setHours 22 = .ok (.ireturn, 1) := by decide +kernel
theorem dL_setHours_23 : decode cL_setHours 23 = .ok (.iconst 0, 1) := by decide +kernel
theorem dL_setHours_24 : decode cL_setHours 24 = .ok (.ireturn, 1) := by decide +kernel
theorem dL_addBadge_0 : decode cL_addBadge 0 = .ok (.aload_n 2, 1) := by decide +kernel
theorem dL_addBadge_1 : decode cL_addBadge 1 = .ok (.iconst 0, 1) := by decide +kernel
theorem dL_addBadge_2 : decode cL_addBadge 2 = .ok (.aload_n 0, 1) := by decide +kernel
theorem dL_addBadge_3 : decode cL_addBadge 3 = .ok (.iload_n 1, 1) := by decide +kernel
theorem dL_addBadge_4 : decode cL_addBadge 4 = .ok (.invokevirtual 27, 3) := by decide +kernel
theorem dL_addBadge_7 : decode cL_addBadge 7 = .ok (.i2l, 1) := by decide +kernel
theorem dL_addBadge_8 : decode cL_addBadge 8 = .ok (.lastore, 1) := by decide +kernel
theorem dL_addBadge_9 : decode cL_addBadge 9 = .ok (.goto 9, 3) := by decide +kernel
theorem dL_addBadge_12 : decode cL_addBadge 12 = .ok (.astore_n 3, 1) := by decide +kernel
theorem dL_addBadge_13 : decode cL_addBadge 13 = .ok (.iconst 1, 1) := by decide +kernel
theorem dL_addBadge_14 : decode cL_addBadge 14 = .ok (.ireturn, 1) := by decide +kernel
theorem dL_addBadge_15 : decode cL_addBadge 15 = .ok (.astore_n 3, 1) := by decide +kernel
theorem dL_addBadge_16 : decode cL_addBadge 16 = .ok (.iconst 2, 1) := by decide +kernel
theorem dL_addBadge_17 : decode cL_addBadge 17 = .ok (.ireturn, 1) := by decide +kernel
theorem dL_addBadge_18 : decode cL_addBadge 18 = .ok (.iconst 0, 1) := by decide +kernel
theorem dL_addBadge_19 : decode cL_addBadge 19 = .ok (.ireturn, 1) := by decide +kernel
theorem dL_setRevoked_0 : decode cL_setRevoked 0 = .ok (.aload_n 3, 1) := by decide +kernel
theorem dL_setRevoked_1 : decode cL_setRevoked 1 = .ok (.iconst 0, 1) := by decide +kernel
theorem dL_setRevoked_2 : decode cL_setRevoked 2 = .ok (.aload_n 0, 1) := by decide +kernel
theorem dL_setRevoked_3 : decode cL_setRevoked 3 = .ok (.iload_n 1, 1) := by decide +kernel
theorem dL_setRevoked_4 : decode cL_setRevoked 4 = .ok (.iload_n 2, 1) := by decide +kernel
theorem dL_setRevoked_5 : decode cL_setRevoked 5 = .ok (.invokevirtual 30, 3) := by decide +kernel
theorem dL_setRevoked_8 : decode cL_setRevoked 8 = .ok (.ifCond .eq 7, 3) := by decide +kernel
theorem dL_setRevoked_11 : decode cL_setRevoked 11 = .ok (.lconst 1, 1) := by decide +kernel
theorem dL_setRevoked_12 : decode cL_setRevoked 12 = .ok (.goto 4, 3) := by decide +kernel
theorem dL_setRevoked_15 : decode cL_setRevoked 15 = .ok (.lconst 0, 1) := by decide +kernel
theorem dL_setRevoked_16 : decode cL_setRevoked 16 = .ok (.lastore, 1) := by decide +kernel
theorem dL_setRevoked_17 : decode cL_setRevoked 17 = .ok (.goto 7, 3) := by decide +kernel
theorem dL_setRevoked_20 : decode cL_setRevoked 20 = .ok (.astore 4, 2) := by decide +kernel
theorem dL_setRevoked_22 : decode cL_setRevoked 22 = .ok (.iconst 1, 1) := by decide +kernel
theorem dL_setRevoked_23 : decode cL_setRevoked 23 = .ok (.ireturn, 1) := by decide +kernel
theorem dL_setRevoked_24 : decode cL_setRevoked 24 = .ok (.iconst 0, 1) := by decide +kernel
theorem dL_setRevoked_25 : decode cL_setRevoked 25 = .ok (.ireturn, 1) := by decide +kernel
theorem dL_reason_0 : decode cL_reason 0 = .ok (.aload_n 3, 1) := by decide +kernel
theorem dL_reason_1 : decode cL_reason 1 = .ok (.iconst 0, 1) := by decide +kernel
theorem dL_reason_2 : decode cL_reason 2 = .ok (.aload_n 0, 1) := by decide +kernel
theorem dL_reason_3 : decode cL_reason 3 = .ok (.iload_n 1, 1) := by decide +kernel
theorem dL_reason_4 : decode cL_reason 4 = .ok (.iload_n 2, 1) := by decide +kernel
theorem dL_reason_5 : decode cL_reason 5 = .ok (.invokevirtual 34, 3) := by decide +kernel
theorem dL_reason_8 : decode cL_reason 8 = .ok (.i2l, 1) := by decide +kernel
theorem dL_reason_9 : decode cL_reason 9 = .ok (.lastore, 1) := by decide +kernel
theorem dL_reason_10 : decode cL_reason 10 = .ok (.goto 7, 3) := by decide +kernel
theorem dL_reason_13 : decode cL_reason 13 = .ok (.astore 4, 2) := by decide +kernel
theorem dL_reason_15 : decode cL_reason 15 = .ok (.iconst 1, 1) := by decide +kernel
theorem dL_reason_16 : decode cL_reason 16 = .ok (.ireturn, 1) := by decide +kernel
theorem dL_reason_17 : decode cL_reason 17 = .ok (.iconst 0, 1) := by decide +kernel
theorem dL_reason_18 : decode cL_reason 18 = .ok (.ireturn, 1) := by decide +kernel
theorem dL_call_0 : decode cL_call 0 = .ok (.aload 4, 2) := by decide +kernel
theorem dL_call_2 : decode cL_call 2 = .ok (.iconst 0, 1) := by decide +kernel
theorem dL_call_3 : decode cL_call 3 = .ok (.aload_n 0, 1) := by decide +kernel
theorem dL_call_4 : decode cL_call 4 = .ok (.iload_n 1, 1) := by decide +kernel
theorem dL_call_5 : decode cL_call 5 = .ok (.iload_n 2, 1) := by decide +kernel
theorem dL_call_6 : decode cL_call 6 = .ok (.iload_n 3, 1) := by decide +kernel
theorem dL_call_7 : decode cL_call 7 = .ok (.invokevirtual 38, 3) := by decide +kernel
theorem dL_call_10 : decode cL_call 10 = .ok (.i2l, 1) := by decide +kernel
theorem dL_call_11 : decode cL_call 11 = .ok (.lastore, 1) := by decide +kernel
theorem dL_call_12 : decode cL_call 12 = .ok (.goto 19, 3) := by decide +kernel
theorem dL_call_15 : decode cL_call 15 = .ok (.astore 5, 2) := by decide +kernel
theorem dL_call_17 : decode cL_call 17 = .ok (.iconst 1, 1) := by decide +kernel
theorem dL_call_18 : decode cL_call 18 = .ok (.ireturn, 1) := by decide +kernel
theorem dL_call_19 : decode cL_call 19 = .ok (.astore 5, 2) := by decide +kernel
theorem dL_call_21 : decode cL_call 21 = .ok (.iconst 2, 1) := by decide +kernel
theorem dL_call_22 : decode cL_call 22 = .ok (.ireturn, 1) := by decide +kernel
theorem dL_call_23 : decode cL_call 23 = .ok (.astore 5, 2) := by decide +kernel
theorem dL_call_25 : decode cL_call 25 = .ok (.iconst 3, 1) := by decide +kernel
theorem dL_call_26 : decode cL_call 26 = .ok (.ireturn, 1) := by decide +kernel
theorem dL_call_27 : decode cL_call 27 = .ok (.astore 5, 2) := by decide +kernel
theorem dL_call_29 : decode cL_call 29 = .ok (.iconst 4, 1) := by decide +kernel
theorem dL_call_30 : decode cL_call 30 = .ok (.ireturn, 1) := by decide +kernel
theorem dL_call_31 : decode cL_call 31 = .ok (.iconst 0, 1) := by decide +kernel
theorem dL_call_32 : decode cL_call 32 = .ok (.ireturn, 1) := by decide +kernel
theorem dL_state_0 : decode cL_state 0 = .ok (.aload_n 2, 1) := by decide +kernel
theorem dL_state_1 : decode cL_state 1 = .ok (.iconst 0, 1) := by decide +kernel
theorem dL_state_2 : decode cL_state 2 = .ok (.aload_n 0, 1) := by decide +kernel
theorem dL_state_3 : decode cL_state 3 = .ok (.iload_n 1, 1) := by decide +kernel
theorem dL_state_4 : decode cL_state 4 = .ok (.invokevirtual 43, 3) := by decide +kernel
theorem dL_state_7 : decode cL_state 7 = .ok (.i2l, 1) := by decide +kernel
theorem dL_state_8 : decode cL_state 8 = .ok (.lastore, 1) := by decide +kernel
theorem dL_state_9 : decode cL_state 9 = .ok (.goto 6, 3) := by decide +kernel
theorem dL_state_12 : decode cL_state 12 = .ok (.astore_n 3, 1) := by decide +kernel
theorem dL_state_13 : decode cL_state 13 = .ok (.iconst 1, 1) := by decide +kernel
theorem dL_state_14 : decode cL_state 14 = .ok (.ireturn, 1) := by decide +kernel
theorem dL_state_15 : decode cL_state 15 = .ok (.iconst 0, 1) := by decide +kernel
theorem dL_state_16 : decode cL_state 16 = .ok (.ireturn, 1) := by decide +kernel
theorem dL_floorOf_0 : decode cL_floorOf 0 = .ok (.aload_n 2, 1) := by decide +kernel
theorem dL_floorOf_1 : decode cL_floorOf 1 = .ok (.iconst 0, 1) := by decide +kernel
theorem dL_floorOf_2 : decode cL_floorOf 2 = .ok (.aload_n 0, 1) := by decide +kernel
theorem dL_floorOf_3 : decode cL_floorOf 3 = .ok (.iload_n 1, 1) := by decide +kernel
theorem dL_floorOf_4 : decode cL_floorOf 4 = .ok (.invokevirtual 47, 3) := by decide +kernel
theorem dL_floorOf_7 : decode cL_floorOf 7 = .ok (.i2l, 1) := by decide +kernel
theorem dL_floorOf_8 : decode cL_floorOf 8 = .ok (.lastore, 1) := by decide +kernel
theorem dL_floorOf_9 : decode cL_floorOf 9 = .ok (.goto 6, 3) := by decide +kernel
theorem dL_floorOf_12 : decode cL_floorOf 12 = .ok (.astore_n 3, 1) := by decide +kernel
theorem dL_floorOf_13 : decode cL_floorOf 13 = .ok (.iconst 1, 1) := by decide +kernel
theorem dL_floorOf_14 : decode cL_floorOf 14 = .ok (.ireturn, 1) := by decide +kernel
theorem dL_floorOf_15 : decode cL_floorOf 15 = .ok (.iconst 0, 1) := by decide +kernel
theorem dL_floorOf_16 : decode cL_floorOf 16 = .ok (.ireturn, 1) := by decide +kernel
theorem dL_aim_0 : decode cL_aim 0 = .ok (.aload_n 2, 1) := by decide +kernel
theorem dL_aim_1 : decode cL_aim 1 = .ok (.iconst 0, 1) := by decide +kernel
theorem dL_aim_2 : decode cL_aim 2 = .ok (.aload_n 0, 1) := by decide +kernel
theorem dL_aim_3 : decode cL_aim 3 = .ok (.iload_n 1, 1) := by decide +kernel
theorem dL_aim_4 : decode cL_aim 4 = .ok (.invokevirtual 50, 3) := by decide +kernel
theorem dL_aim_7 : decode cL_aim 7 = .ok (.i2l, 1) := by decide +kernel
theorem dL_aim_8 : decode cL_aim 8 = .ok (.lastore, 1) := by decide +kernel
theorem dL_aim_9 : decode cL_aim 9 = .ok (.goto 6, 3) := by decide +kernel
theorem dL_aim_12 : decode cL_aim 12 = .ok (.astore_n 3, 1) := by decide +kernel
theorem dL_aim_13 : decode cL_aim 13 = .ok (.iconst 1, 1) := by decide +kernel
theorem dL_aim_14 : decode cL_aim 14 = .ok (.ireturn, 1) := by decide +kernel
theorem dL_aim_15 : decode cL_aim 15 = .ok (.iconst 0, 1) := by decide +kernel
theorem dL_aim_16 : decode cL_aim 16 = .ok (.ireturn, 1) := by decide +kernel
theorem dL_liftOf_0 : decode cL_liftOf 0 = .ok (.aload_n 2, 1) := by decide +kernel
theorem dL_liftOf_1 : decode cL_liftOf 1 = .ok (.iconst 0, 1) := by decide +kernel
theorem dL_liftOf_2 : decode cL_liftOf 2 = .ok (.aload_n 0, 1) := by decide +kernel
theorem dL_liftOf_3 : decode cL_liftOf 3 = .ok (.iload_n 1, 1) := by decide +kernel
theorem dL_liftOf_4 : decode cL_liftOf 4 = .ok (.invokevirtual 53, 3) := by decide +kernel
theorem dL_liftOf_7 : decode cL_liftOf 7 = .ok (.i2l, 1) := by decide +kernel
theorem dL_liftOf_8 : decode cL_liftOf 8 = .ok (.lastore, 1) := by decide +kernel
theorem dL_liftOf_9 : decode cL_liftOf 9 = .ok (.goto 9, 3) := by decide +kernel
theorem dL_liftOf_12 : decode cL_liftOf 12 = .ok (.astore_n 3, 1) := by decide +kernel
theorem dL_liftOf_13 : decode cL_liftOf 13 = .ok (.iconst 1, 1) := by decide +kernel
theorem dL_liftOf_14 : decode cL_liftOf 14 = .ok (.ireturn, 1) := by decide +kernel
theorem dL_liftOf_15 : decode cL_liftOf 15 = .ok (.astore_n 3, 1) := by decide +kernel
theorem dL_liftOf_16 : decode cL_liftOf 16 = .ok (.iconst 2, 1) := by decide +kernel
theorem dL_liftOf_17 : decode cL_liftOf 17 = .ok (.ireturn, 1) := by decide +kernel
theorem dL_liftOf_18 : decode cL_liftOf 18 = .ok (.iconst 0, 1) := by decide +kernel
theorem dL_liftOf_19 : decode cL_liftOf 19 = .ok (.ireturn, 1) := by decide +kernel
theorem dL_waited_0 : decode cL_waited 0 = .ok (.aload_n 2, 1) := by decide +kernel
theorem dL_waited_1 : decode cL_waited 1 = .ok (.iconst 0, 1) := by decide +kernel
theorem dL_waited_2 : decode cL_waited 2 = .ok (.aload_n 0, 1) := by decide +kernel
theorem dL_waited_3 : decode cL_waited 3 = .ok (.iload_n 1, 1) := by decide +kernel
theorem dL_waited_4 : decode cL_waited 4 = .ok (.invokevirtual 58, 3) := by decide +kernel
theorem dL_waited_7 : decode cL_waited 7 = .ok (.i2l, 1) := by decide +kernel
theorem dL_waited_8 : decode cL_waited 8 = .ok (.lastore, 1) := by decide +kernel
theorem dL_waited_9 : decode cL_waited 9 = .ok (.goto 6, 3) := by decide +kernel
theorem dL_waited_12 : decode cL_waited 12 = .ok (.astore_n 3, 1) := by decide +kernel
theorem dL_waited_13 : decode cL_waited 13 = .ok (.iconst 1, 1) := by decide +kernel
theorem dL_waited_14 : decode cL_waited 14 = .ok (.ireturn, 1) := by decide +kernel
theorem dL_waited_15 : decode cL_waited 15 = .ok (.iconst 0, 1) := by decide +kernel
theorem dL_waited_16 : decode cL_waited 16 = .ok (.ireturn, 1) := by decide +kernel
theorem dL_waitedByLog_0 : decode cL_waitedByLog 0 = .ok (.aload_n 2, 1) := by decide +kernel
theorem dL_waitedByLog_1 : decode cL_waitedByLog 1 = .ok (.iconst 0, 1) := by decide +kernel
theorem dL_waitedByLog_2 : decode cL_waitedByLog 2 = .ok (.aload_n 0, 1) := by decide +kernel
theorem dL_waitedByLog_3 : decode cL_waitedByLog 3 = .ok (.iload_n 1, 1) := by decide +kernel
theorem dL_waitedByLog_4 : decode cL_waitedByLog 4 = .ok (.invokevirtual 61, 3) := by decide +kernel
theorem dL_waitedByLog_7 : decode cL_waitedByLog 7 = .ok (.i2l, 1) := by decide +kernel
theorem dL_waitedByLog_8 : decode cL_waitedByLog 8 = .ok (.lastore, 1) := by decide +kernel
theorem dL_waitedByLog_9 : decode cL_waitedByLog 9 = .ok (.goto 6, 3) := by decide +kernel
theorem dL_waitedByLog_12 : decode cL_waitedByLog 12 = .ok (.astore_n 3, 1) := by decide +kernel
theorem dL_waitedByLog_13 : decode cL_waitedByLog 13 = .ok (.iconst 1, 1) := by decide +kernel
theorem dL_waitedByLog_14 : decode cL_waitedByLog 14 = .ok (.ireturn, 1) := by decide +kernel
theorem dL_waitedByLog_15 : decode cL_waitedByLog 15 = .ok (.iconst 0, 1) := by decide +kernel
theorem dL_waitedByLog_16 : decode cL_waitedByLog 16 = .ok (.ireturn, 1) := by decide +kernel
theorem dL_callOff_0 : decode cL_callOff 0 = .ok (.aload_n 2, 1) := by decide +kernel
theorem dL_callOff_1 : decode cL_callOff 1 = .ok (.iconst 0, 1) := by decide +kernel
theorem dL_callOff_2 : decode cL_callOff 2 = .ok (.aload_n 0, 1) := by decide +kernel
theorem dL_callOff_3 : decode cL_callOff 3 = .ok (.iload_n 1, 1) := by decide +kernel
theorem dL_callOff_4 : decode cL_callOff 4 = .ok (.invokevirtual 64, 3) := by decide +kernel
theorem dL_callOff_7 : decode cL_callOff 7 = .ok (.i2l, 1) := by decide +kernel
theorem dL_callOff_8 : decode cL_callOff 8 = .ok (.lastore, 1) := by decide +kernel
theorem dL_callOff_9 : decode cL_callOff 9 = .ok (.goto 9, 3) := by decide +kernel
theorem dL_callOff_12 : decode cL_callOff 12 = .ok (.astore_n 3, 1) := by decide +kernel
theorem dL_callOff_13 : decode cL_callOff 13 = .ok (.iconst 1, 1) := by decide +kernel
theorem dL_callOff_14 : decode cL_callOff 14 = .ok (.ireturn, 1) := by decide +kernel
theorem dL_callOff_15 : decode cL_callOff 15 = .ok (.astore_n 3, 1) := by decide +kernel
theorem dL_callOff_16 : decode cL_callOff 16 = .ok (.iconst 2, 1) := by decide +kernel
theorem dL_callOff_17 : decode cL_callOff 17 = .ok (.ireturn, 1) := by decide +kernel
theorem dL_callOff_18 : decode cL_callOff 18 = .ok (.iconst 0, 1) := by decide +kernel
theorem dL_callOff_19 : decode cL_callOff 19 = .ok (.ireturn, 1) := by decide +kernel
theorem dL_service_0 : decode cL_service 0 = .ok (.aload_n 2, 1) := by decide +kernel
theorem dL_service_1 : decode cL_service 1 = .ok (.iconst 0, 1) := by decide +kernel
theorem dL_service_2 : decode cL_service 2 = .ok (.aload_n 0, 1) := by decide +kernel
theorem dL_service_3 : decode cL_service 3 = .ok (.iload_n 1, 1) := by decide +kernel
theorem dL_service_4 : decode cL_service 4 = .ok (.invokevirtual 67, 3) := by decide +kernel
theorem dL_service_7 : decode cL_service 7 = .ok (.i2l, 1) := by decide +kernel
theorem dL_service_8 : decode cL_service 8 = .ok (.lastore, 1) := by decide +kernel
theorem dL_service_9 : decode cL_service 9 = .ok (.goto 6, 3) := by decide +kernel
theorem dL_service_12 : decode cL_service 12 = .ok (.astore_n 3, 1) := by decide +kernel
theorem dL_service_13 : decode cL_service 13 = .ok (.iconst 1, 1) := by decide +kernel
theorem dL_service_14 : decode cL_service 14 = .ok (.ireturn, 1) := by decide +kernel
theorem dL_service_15 : decode cL_service 15 = .ok (.iconst 0, 1) := by decide +kernel
theorem dL_service_16 : decode cL_service 16 = .ok (.ireturn, 1) := by decide +kernel
theorem dL_floorOfLift_0 : decode cL_floorOfLift 0 = .ok (.aload_n 2, 1) := by decide +kernel
theorem dL_floorOfLift_1 : decode cL_floorOfLift 1 = .ok (.iconst 0, 1) := by decide +kernel
theorem dL_floorOfLift_2 : decode cL_floorOfLift 2 = .ok (.aload_n 0, 1) := by decide +kernel
theorem dL_floorOfLift_3 : decode cL_floorOfLift 3 = .ok (.iload_n 1, 1) := by decide +kernel
theorem dL_floorOfLift_4 : decode cL_floorOfLift 4 = .ok (.invokevirtual 70, 3) := by decide +kernel
theorem dL_floorOfLift_7 : decode cL_floorOfLift 7 = .ok (.i2l, 1) := by decide +kernel
theorem dL_floorOfLift_8 : decode cL_floorOfLift 8 = .ok (.lastore, 1) := by decide +kernel
theorem dL_floorOfLift_9 : decode cL_floorOfLift 9 = .ok (.goto 6, 3) := by decide +kernel
theorem dL_floorOfLift_12 : decode cL_floorOfLift 12 = .ok (.astore_n 3, 1) := by decide +kernel
theorem dL_floorOfLift_13 : decode cL_floorOfLift 13 = .ok (.iconst 1, 1) := by decide +kernel
theorem dL_floorOfLift_14 : decode cL_floorOfLift 14 = .ok (.ireturn, 1) := by decide +kernel
theorem dL_floorOfLift_15 : decode cL_floorOfLift 15 = .ok (.iconst 0, 1) := by decide +kernel
theorem dL_floorOfLift_16 : decode cL_floorOfLift 16 = .ok (.ireturn, 1) := by decide +kernel
theorem dL_isUp_0 : decode cL_isUp 0 = .ok (.aload_n 2, 1) := by decide +kernel
theorem dL_isUp_1 : decode cL_isUp 1 = .ok (.iconst 0, 1) := by decide +kernel
theorem dL_isUp_2 : decode cL_isUp 2 = .ok (.aload_n 0, 1) := by decide +kernel
theorem dL_isUp_3 : decode cL_isUp 3 = .ok (.iload_n 1, 1) := by decide +kernel
theorem dL_isUp_4 : decode cL_isUp 4 = .ok (.invokevirtual 73, 3) := by decide +kernel
theorem dL_isUp_7 : decode cL_isUp 7 = .ok (.ifCond .eq 7, 3) := by decide +kernel
theorem dL_isUp_10 : decode cL_isUp 10 = .ok (.lconst 1, 1) := by decide +kernel
theorem dL_isUp_11 : decode cL_isUp 11 = .ok (.goto 4, 3) := by decide +kernel
theorem dL_isUp_14 : decode cL_isUp 14 = .ok (.lconst 0, 1) := by decide +kernel
theorem dL_isUp_15 : decode cL_isUp 15 = .ok (.lastore, 1) := by decide +kernel
theorem dL_isUp_16 : decode cL_isUp 16 = .ok (.goto 6, 3) := by decide +kernel
theorem dL_isUp_19 : decode cL_isUp 19 = .ok (.astore_n 3, 1) := by decide +kernel
theorem dL_isUp_20 : decode cL_isUp 20 = .ok (.iconst 1, 1) := by decide +kernel
theorem dL_isUp_21 : decode cL_isUp 21 = .ok (.ireturn, 1) := by decide +kernel
theorem dL_isUp_22 : decode cL_isUp 22 = .ok (.iconst 0, 1) := by decide +kernel
theorem dL_isUp_23 : decode cL_isUp 23 = .ok (.ireturn, 1) := by decide +kernel
theorem dL_aboard_0 : decode cL_aboard 0 = .ok (.aload_n 2, 1) := by decide +kernel
theorem dL_aboard_1 : decode cL_aboard 1 = .ok (.iconst 0, 1) := by decide +kernel
theorem dL_aboard_2 : decode cL_aboard 2 = .ok (.aload_n 0, 1) := by decide +kernel
theorem dL_aboard_3 : decode cL_aboard 3 = .ok (.iload_n 1, 1) := by decide +kernel
theorem dL_aboard_4 : decode cL_aboard 4 = .ok (.invokevirtual 77, 3) := by decide +kernel
theorem dL_aboard_7 : decode cL_aboard 7 = .ok (.i2l, 1) := by decide +kernel
theorem dL_aboard_8 : decode cL_aboard 8 = .ok (.lastore, 1) := by decide +kernel
theorem dL_aboard_9 : decode cL_aboard 9 = .ok (.goto 6, 3) := by decide +kernel
theorem dL_aboard_12 : decode cL_aboard 12 = .ok (.astore_n 3, 1) := by decide +kernel
theorem dL_aboard_13 : decode cL_aboard 13 = .ok (.iconst 1, 1) := by decide +kernel
theorem dL_aboard_14 : decode cL_aboard 14 = .ok (.ireturn, 1) := by decide +kernel
theorem dL_aboard_15 : decode cL_aboard 15 = .ok (.iconst 0, 1) := by decide +kernel
theorem dL_aboard_16 : decode cL_aboard 16 = .ok (.ireturn, 1) := by decide +kernel
theorem dL_score_0 : decode cL_score 0 = .ok (.aload_n 3, 1) := by decide +kernel
theorem dL_score_1 : decode cL_score 1 = .ok (.iconst 0, 1) := by decide +kernel
theorem dL_score_2 : decode cL_score 2 = .ok (.aload_n 0, 1) := by decide +kernel
theorem dL_score_3 : decode cL_score 3 = .ok (.iload_n 1, 1) := by decide +kernel
theorem dL_score_4 : decode cL_score 4 = .ok (.iload_n 2, 1) := by decide +kernel
theorem dL_score_5 : decode cL_score 5 = .ok (.invokevirtual 80, 3) := by decide +kernel
theorem dL_score_8 : decode cL_score 8 = .ok (.i2l, 1) := by decide +kernel
theorem dL_score_9 : decode cL_score 9 = .ok (.lastore, 1) := by decide +kernel
theorem dL_score_10 : decode cL_score 10 = .ok (.goto 7, 3) := by decide +kernel
theorem dL_score_13 : decode cL_score 13 = .ok (.astore 4, 2) := by decide +kernel
theorem dL_score_15 : decode cL_score 15 = .ok (.iconst 1, 1) := by decide +kernel
theorem dL_score_16 : decode cL_score 16 = .ok (.ireturn, 1) := by decide +kernel
theorem dL_score_17 : decode cL_score 17 = .ok (.iconst 0, 1) := by decide +kernel
theorem dL_score_18 : decode cL_score 18 = .ok (.ireturn, 1) := by decide +kernel
theorem dL_pass_0 : decode cL_pass 0 = .ok (.aload_n 2, 1) := by decide +kernel
theorem dL_pass_1 : decode cL_pass 1 = .ok (.iconst 0, 1) := by decide +kernel
theorem dL_pass_2 : decode cL_pass 2 = .ok (.aload_n 0, 1) := by decide +kernel
theorem dL_pass_3 : decode cL_pass 3 = .ok (.iload_n 1, 1) := by decide +kernel
theorem dL_pass_4 : decode cL_pass 4 = .ok (.invokevirtual 83, 3) := by decide +kernel
theorem dL_pass_7 : decode cL_pass 7 = .ok (.i2l, 1) := by decide +kernel
theorem dL_pass_8 : decode cL_pass 8 = .ok (.lastore, 1) := by decide +kernel
theorem dL_pass_9 : decode cL_pass 9 = .ok (.goto 6, 3) := by decide +kernel
theorem dL_pass_12 : decode cL_pass 12 = .ok (.astore_n 3, 1) := by decide +kernel
theorem dL_pass_13 : decode cL_pass 13 = .ok (.iconst 1, 1) := by decide +kernel
theorem dL_pass_14 : decode cL_pass 14 = .ok (.ireturn, 1) := by decide +kernel
theorem dL_pass_15 : decode cL_pass 15 = .ok (.iconst 0, 1) := by decide +kernel
theorem dL_pass_16 : decode cL_pass 16 = .ok (.ireturn, 1) := by decide +kernel
theorem dL_alarm_0 : decode cL_alarm 0 = .ok (.aload_n 2, 1) := by decide +kernel
theorem dL_alarm_1 : decode cL_alarm 1 = .ok (.iconst 0, 1) := by decide +kernel
theorem dL_alarm_2 : decode cL_alarm 2 = .ok (.aload_n 0, 1) := by decide +kernel
theorem dL_alarm_3 : decode cL_alarm 3 = .ok (.iload_n 1, 1) := by decide +kernel
theorem dL_alarm_4 : decode cL_alarm 4 = .ok (.invokevirtual 86, 3) := by decide +kernel
theorem dL_alarm_7 : decode cL_alarm 7 = .ok (.i2l, 1) := by decide +kernel
theorem dL_alarm_8 : decode cL_alarm 8 = .ok (.lastore, 1) := by decide +kernel
theorem dL_alarm_9 : decode cL_alarm 9 = .ok (.goto 9, 3) := by decide +kernel
theorem dL_alarm_12 : decode cL_alarm 12 = .ok (.astore_n 3, 1) := by decide +kernel
theorem dL_alarm_13 : decode cL_alarm 13 = .ok (.iconst 1, 1) := by decide +kernel
theorem dL_alarm_14 : decode cL_alarm 14 = .ok (.ireturn, 1) := by decide +kernel
theorem dL_alarm_15 : decode cL_alarm 15 = .ok (.astore_n 3, 1) := by decide +kernel
theorem dL_alarm_16 : decode cL_alarm 16 = .ok (.iconst 2, 1) := by decide +kernel
theorem dL_alarm_17 : decode cL_alarm 17 = .ok (.ireturn, 1) := by decide +kernel
theorem dL_alarm_18 : decode cL_alarm 18 = .ok (.iconst 0, 1) := by decide +kernel
theorem dL_alarm_19 : decode cL_alarm 19 = .ok (.ireturn, 1) := by decide +kernel
theorem dL_turn_0 : decode cL_turn 0 = .ok (.aload_n 1, 1) := by decide +kernel
theorem dL_turn_1 : decode cL_turn 1 = .ok (.iconst 0, 1) := by decide +kernel
theorem dL_turn_2 : decode cL_turn 2 = .ok (.aload_n 0, 1) := by decide +kernel
theorem dL_turn_3 : decode cL_turn 3 = .ok (.invokevirtual 89, 3) := by decide +kernel
theorem dL_turn_6 : decode cL_turn 6 = .ok (.i2l, 1) := by decide +kernel
theorem dL_turn_7 : decode cL_turn 7 = .ok (.lastore, 1) := by decide +kernel
theorem dL_turn_8 : decode cL_turn 8 = .ok (.goto 6, 3) := by decide +kernel
theorem dL_turn_11 : decode cL_turn 11 = .ok (.astore_n 2, 1) := by decide +kernel
theorem dL_turn_12 : decode cL_turn 12 = .ok (.iconst 1, 1) := by decide +kernel
theorem dL_turn_13 : decode cL_turn 13 = .ok (.ireturn, 1) := by decide +kernel
theorem dL_turn_14 : decode cL_turn 14 = .ok (.iconst 0, 1) := by decide +kernel
theorem dL_turn_15 : decode cL_turn 15 = .ok (.ireturn, 1) := by decide +kernel
theorem dL_doneShare_0 : decode cL_doneShare 0 = .ok (.aload_n 1, 1) := by decide +kernel
theorem dL_doneShare_1 : decode cL_doneShare 1 = .ok (.iconst 0, 1) := by decide +kernel
theorem dL_doneShare_2 : decode cL_doneShare 2 = .ok (.aload_n 0, 1) := by decide +kernel
theorem dL_doneShare_3 : decode cL_doneShare 3 = .ok (.invokevirtual 93, 3) := by decide +kernel
theorem dL_doneShare_6 : decode cL_doneShare 6 = .ok (.f2d, 1) := by decide +kernel
theorem dL_doneShare_7 : decode cL_doneShare 7 = .ok (.dastore, 1) := by decide +kernel
theorem dL_doneShare_8 : decode cL_doneShare 8 = .ok (.goto 6, 3) := by decide +kernel
theorem dL_doneShare_11 : decode cL_doneShare 11 = .ok (.astore_n 2, 1) := by decide +kernel
theorem dL_doneShare_12 : decode cL_doneShare 12 = .ok (.iconst 1, 1) := by decide +kernel
theorem dL_doneShare_13 : decode cL_doneShare 13 = .ok (.ireturn, 1) := by decide +kernel
theorem dL_doneShare_14 : decode cL_doneShare 14 = .ok (.iconst 0, 1) := by decide +kernel
theorem dL_doneShare_15 : decode cL_doneShare 15 = .ok (.ireturn, 1) := by decide +kernel
theorem dL_meanWait_0 : decode cL_meanWait 0 = .ok (.aload_n 1, 1) := by decide +kernel
theorem dL_meanWait_1 : decode cL_meanWait 1 = .ok (.iconst 0, 1) := by decide +kernel
theorem dL_meanWait_2 : decode cL_meanWait 2 = .ok (.aload_n 0, 1) := by decide +kernel
theorem dL_meanWait_3 : decode cL_meanWait 3 = .ok (.invokevirtual 99, 3) := by decide +kernel
theorem dL_meanWait_6 : decode cL_meanWait 6 = .ok (.dastore, 1) := by decide +kernel
theorem dL_meanWait_7 : decode cL_meanWait 7 = .ok (.goto 6, 3) := by decide +kernel
theorem dL_meanWait_10 : decode cL_meanWait 10 = .ok (.astore_n 2, 1) := by decide +kernel
theorem dL_meanWait_11 : decode cL_meanWait 11 = .ok (.iconst 1, 1) := by decide +kernel
theorem dL_meanWait_12 : decode cL_meanWait 12 = .ok (.ireturn, 1) := by decide +kernel
theorem dL_meanWait_13 : decode cL_meanWait 13 = .ok (.iconst 0, 1) := by decide +kernel
theorem dL_meanWait_14 : decode cL_meanWait 14 = .ok (.ireturn, 1) := by decide +kernel
