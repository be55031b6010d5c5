theorem dX5_thrown_0 : decode cX5_thrown 0 = .ok (.aload_n 0, 1) := by decide +kernel
theorem dX5_thrown_1 : decode cX5_thrown 1 = .ok (.getfield 1, 3) := by decide +kernel
theorem dX5_thrown_4 : decode cX5_thrown 4 = .ok (.ireturn, 1) := by decide +kernel
theorem dX5_fails_0 : decode cX5_fails 0 = .ok (.aload_n 0, 1) := by decide +kernel
theorem dX5_fails_1 : decode cX5_fails 1 = .ok (.iload_n 1, 1) := by decide +kernel
theorem dX5_fails_2 : decode cX5_fails 2 = .ok (.putfield 1, 3) := by decide +kernel
theorem dX5_fails_5 : decode cX5_fails 5 = .ok (.iconst 0, 1) := by decide +kernel
theorem dX5_fails_6 : decode cX5_fails 6 = .ok (.ireturn, 1) := by decide +kernel
theorem dX5_isWrong_0 : decode cX5_isWrong 0 = .ok (.aload_n 0, 1) := by decide +kernel
theorem dX5_isWrong_1 : decode cX5_isWrong 1 = .ok (.iload_n 1, 1) := by decide +kernel
theorem dX5_isWrong_2 : decode cX5_isWrong 2 = .ok (.putfield 1, 3) := by decide +kernel
theorem dX5_isWrong_5 : decode cX5_isWrong 5 = .ok (.iconst 0, 1) := by decide +kernel
theorem dX5_isWrong_6 : decode cX5_isWrong 6 = .ok (.ireturn, 1) := by decide +kernel
theorem dX5_isBetween_0 : decode cX5_isBetween 0 = .ok (.iload_n 1, 1) := by decide +kernel
theorem dX5_isBetween_1 : decode cX5_isBetween 1 = .ok (.iload_n 0, 1) := by decide +kernel
theorem dX5_isBetween_2 : decode cX5_isBetween 2 = .ok (.if_icmp .gt 12, 3) := by decide +kernel
theorem dX5_isBetween_5 : decode cX5_isBetween 5 = .ok (.iload_n 0, 1) := by decide +kernel
theorem dX5_isBetween_6 : decode cX5_isBetween 6 = .ok (.iload_n 2, 1) := by decide +kernel
theorem dX5_isBetween_7 : decode cX5_isBetween 7 = .ok (.if_icmp .gt 7, 3) := by decide +kernel
theorem dX5_isBetween_10 : decode cX5_isBetween 10 = .ok (.iconst 1, 1) := by decide +kernel
theorem dX5_isBetween_11 : decode cX5_isBetween 11 = .ok (.goto 4, 3) := by decide +kernel
theorem dX5_isBetween_14 : decode cX5_isBetween 14 = .ok (.iconst 0, 1) := by decide +kernel
theorem dX5_isBetween_15 : decode cX5_isBetween 15 = .ok (.ireturn, 1) := by decide +kernel
theorem dX5_isFloor_0 : decode cX5_isFloor 0 = .ok (.iload_n 0, 1) := by decide +kernel
theorem dX5_isFloor_1 : decode cX5_isFloor 1 = .ok (.iconst 0, 1) := by decide +kernel
theorem dX5_isFloor_2 : decode cX5_isFloor 2 = .ok (.bipush 9, 2) := by decide +kernel
theorem dX5_isFloor_4 : decode cX5_isFloor 4 = .ok (.invokestatic 7, 3) := by decide +kernel
theorem dX5_isFloor_7 : decode cX5_isFloor 7 = .ok (.ireturn, 1) := by decide +kernel
theorem dX5_init_0 : decode cX5_init 0 = .ok (.aload_n 0, 1) := by decide +kernel
theorem dX5_init_1 : decode cX5_init 1 = .ok (.invokespecial 11, 3) := by decide +kernel
theorem dX5_init_4 : decode cX5_init 4 = .ok (.aload_n 0, 1) := by decide +kernel
theorem dX5_init_5 : decode cX5_init 5 = .ok (.bipush 10, 2) := by decide +kernel
theorem dX5_init_7 : decode cX5_init 7 = .ok (.newarray .int, 2) := by decide +kernel
theorem dX5_init_9 : decode cX5_init 9 = .ok (.putfield 17, 3) := by decide +kernel
theorem dX5_init_12 : decode cX5_init 12 = .ok (.aload_n 0, 1) := by decide +kernel
theorem dX5_init_13 : decode cX5_init 13 = .ok (.bipush 10, 2) := by decide +kernel
theorem dX5_init_15 : decode cX5_init 15 = .ok (.newarray .int, 2) := by decide +kernel
theorem dX5_init_17 : decode cX5_init 17 = .ok (.putfield 21, 3) := by decide +kernel
theorem dX5_init_20 : decode cX5_init 20 = .ok (.aload_n 0, 1) := by decide +kernel
theorem dX5_init_21 : decode cX5_init 21 = .ok (.bipush 10, 2) := by decide +kernel
theorem dX5_init_23 : decode cX5_init 23 = .ok (.newarray .int, 2) := by decide +kernel
theorem dX5_init_25 : decode cX5_init 25 = .ok (.putfield 24, 3) := by decide +kernel
theorem dX5_init_28 : decode cX5_init 28 = .ok (.aload_n 0, 1) := by decide +kernel
theorem dX5_init_29 : decode cX5_init 29 = .ok (.bipush 8, 2) := by decide +kernel
theorem dX5_init_31 : decode cX5_init 31 = .ok (.newarray .int, 2) := by decide +kernel
theorem dX5_init_33 : decode cX5_init 33 = .ok (.putfield 27, 3) := by decide +kernel
theorem dX5_init_36 : decode cX5_init 36 = .ok (.aload_n 0, 1) := by decide +kernel
theorem dX5_init_37 : decode cX5_init 37 = .ok (.bipush 8, 2) := by decide +kernel
theorem dX5_init_39 : decode cX5_init 39 = .ok (.newarray .boolean, 2) := by decide +kernel
theorem dX5_init_41 : decode cX5_init 41 = .ok (.putfield 30, 3) := by decide +kernel
theorem dX5_init_44 : decode cX5_init 44 = .ok (.aload_n 0, 1) := by decide +kernel
theorem dX5_init_45 : decode cX5_init 45 = .ok (.bipush 30, 2) := by decide +kernel
theorem dX5_init_47 : decode cX5_init 47 = .ok (.newarray .int, 2) := by decide +kernel
theorem dX5_init_49 : decode cX5_init 49 = .ok (.putfield 34, 3) := by decide +kernel
theorem dX5_init_52 : decode cX5_init 52 = .ok (.aload_n 0, 1) := by decide +kernel
theorem dX5_init_53 : decode cX5_init 53 = .ok (.bipush 30, 2) := by decide +kernel
theorem dX5_init_55 : decode cX5_init 55 = .ok (.newarray .int, 2) := by decide +kernel
theorem dX5_init_57 : decode cX5_init 57 = .ok (.putfield 37, 3) := by decide +kernel
theorem dX5_init_60 : decode cX5_init 60 = .ok (.aload_n 0, 1) := by decide +kernel
theorem dX5_init_61 : decode cX5_init 61 = .ok (.bipush 30, 2) := by decide +kernel
theorem dX5_init_63 : decode cX5_init 63 = .ok (.newarray .int, 2) := by decide +kernel
theorem dX5_init_65 : decode cX5_init 65 = .ok (.putfield 40, 3) := by decide +kernel
theorem dX5_init_68 : decode cX5_init 68 = .ok (.aload_n 0, 1) := by decide +kernel
theorem dX5_init_69 : decode cX5_init 69 = .ok (.bipush 30, 2) := by decide +kernel
theorem dX5_init_71 : decode cX5_init 71 = .ok (.newarray .int, 2) := by decide +kernel
theorem dX5_init_73 : decode cX5_init 73 = .ok (.putfield 43, 3) := by decide +kernel
theorem dX5_init_76 : decode cX5_init 76 = .ok (.aload_n 0, 1) := by decide +kernel
theorem dX5_init_77 : decode cX5_init 77 = .ok (.bipush 30, 2) := by decide +kernel
theorem dX5_init_79 : decode cX5_init 79 = .ok (.newarray .int, 2) := by decide +kernel
theorem dX5_init_81 : decode cX5_init 81 = .ok (.putfield 46, 3) := by decide +kernel
theorem dX5_init_84 : decode cX5_init 84 = .ok (.aload_n 0, 1) := by decide +kernel
theorem dX5_init_85 : decode cX5_init 85 = .ok (.bipush 30, 2) := by decide +kernel
theorem dX5_init_87 : decode cX5_init 87 = .ok (.newarray .int, 2) := by decide +kernel
theorem dX5_init_89 : decode cX5_init 89 = .ok (.putfield 49, 3) := by decide +kernel
theorem dX5_init_92 : decode cX5_init 92 = .ok (.aload_n 0, 1) := by decide +kernel
theorem dX5_init_93 : decode cX5_init 93 = .ok (.bipush 30, 2) := by decide +kernel
theorem dX5_init_95 : decode cX5_init 95 = .ok (.newarray .char, 2) := by decide +kernel
theorem dX5_init_97 : decode cX5_init 97 = .ok (.putfield 52, 3) := by decide +kernel
theorem dX5_init_100 : decode cX5_init 100 = .ok (.aload_n 0, 1) := by decide +kernel
theorem dX5_init_101 : decode cX5_init 101 = .ok (.iconst 3, 1) := by decide +kernel
theorem dX5_init_102 : decode cX5_init 102 = .ok (.newarray .int, 2) := by decide +kernel
theorem dX5_init_104 : decode cX5_init 104 = .ok (.putfield 56, 3) := by decide +kernel
theorem dX5_init_107 : decode cX5_init 107 = .ok (.aload_n 0, 1) := by decide +kernel
theorem dX5_init_108 : decode cX5_init 108 = .ok (.iconst 3, 1) := by decide +kernel
theorem dX5_init_109 : decode cX5_init 109 = .ok (.newarray .int, 2) := by decide +kernel
theorem dX5_init_111 : decode cX5_init 111 = .ok (.putfield 59, 3) := by decide +kernel
theorem dX5_init_114 : decode cX5_init 114 = .ok (.aload_n 0, 1) := by decide +kernel
theorem dX5_init_115 : decode cX5_init 115 = .ok (.iconst 3, 1) := by decide +kernel
theorem dX5_init_116 : decode cX5_init 116 = .ok (.newarray .int, 2) := by decide +kernel
theorem dX5_init_118 : decode cX5_init 118 = .ok (.putfield 62, 3) := by decide +kernel
theorem dX5_init_121 : decode cX5_init 121 = .ok (.aload_n 0, 1) := by decide +kernel
theorem dX5_init_122 : decode cX5_init 122 = .ok (.iconst 3, 1) := by decide +kernel
theorem dX5_init_123 : decode cX5_init 123 = .ok (.newarray .char, 2) := by decide +kernel
theorem dX5_init_125 : decode cX5_init 125 = .ok (.putfield 65, 3) := by decide +kernel
theorem dX5_init_128 : decode cX5_init 128 = .ok (.aload_n 0, 1) := by decide +kernel
theorem dX5_init_129 : decode cX5_init 129 = .ok (.iconst 3, 1) := by decide +kernel
theorem dX5_init_130 : decode cX5_init 130 = .ok (.newarray .boolean, 2) := by decide +kernel
theorem dX5_init_132 : decode cX5_init 132 = .ok (.putfield 68, 3) := by decide +kernel
theorem dX5_init_135 : decode cX5_init 135 = .ok (.iconst 0, 1) := by decide +kernel
theorem dX5_init_136 : decode cX5_init 136 = .ok (.istore_n 1, 1) := by decide +kernel
theorem dX5_init_137 : decode cX5_init 137 = .ok (.iload_n 1, 1) := by decide +kernel
theorem dX5_init_138 : decode cX5_init 138 = .ok (.bipush 10, 2) := by decide +kernel
theorem dX5_init_140 : decode cX5_init 140 = .ok (.if_icmp .ge 24, 3) := by decide +kernel
theorem dX5_init_143 : decode cX5_init 143 = .ok (.aload_n 0, 1) := by decide +kernel
theorem dX5_init_144 : decode cX5_init 144 = .ok (.getfield 17, 3) := by decide +kernel
theorem dX5_init_147 : decode cX5_init 147 = .ok (.iload_n 1, 1) := by decide +kernel
theorem dX5_init_148 : decode cX5_init 148 = .ok (.iconst (-1), 1) := by decide +kernel
theorem dX5_init_149 : decode cX5_init 149 = .ok (.iastore, 1) := by decide +kernel
theorem dX5_init_150 : decode cX5_init 150 = .ok (.aload_n 0, 1) := by decide +kernel
theorem dX5_init_151 : decode cX5_init 151 = .ok (.getfield 24, 3) := by decide +kernel
theorem dX5_init_154 : decode cX5_init 154 = .ok (.iload_n 1, 1) := by decide +kernel
theorem dX5_init_155 : decode cX5_init 155 = .ok (.bipush 100, 2) := by decide +kernel
theorem dX5_init_157 : decode cX5_init 157 = .ok (.iastore, 1) := by decide +kernel
theorem dX5_init_158 : decode cX5_init 158 = .ok (.iinc 1 1, 3) := by decide +kernel
theorem dX5_init_161 : decode cX5_init 161 = .ok (.goto (-24), 3) := by decide +kernel
theorem dX5_init_164 : decode cX5_init 164 = .ok (.return_, 1) := by decide +kernel
theorem dX5_isBadge_0 : decode cX5_isBadge 0 = .ok (.iload_n 1, 1) := by decide +kernel
theorem dX5_isBadge_1 : decode cX5_isBadge 1 = .ok (.iconst 0, 1) := by decide +kernel
theorem dX5_isBadge_2 : decode cX5_isBadge 2 = .ok (.aload_n 0, 1) := by decide +kernel
theorem dX5_isBadge_3 : decode cX5_isBadge 3 = .ok (.getfield 71, 3) := by decide +kernel
theorem dX5_isBadge_6 : decode cX5_isBadge 6 = .ok (.iconst 1, 1) := by decide +kernel
theorem dX5_isBadge_7 : decode cX5_isBadge 7 = .ok (.isub, 1) := by decide +kernel
theorem dX5_isBadge_8 : decode cX5_isBadge 8 = .ok (.invokestatic 7, 3) := by decide +kernel
theorem dX5_isBadge_11 : decode cX5_isBadge 11 = .ok (.ireturn, 1) := by decide +kernel
theorem dX5_isRider_0 : decode cX5_isRider 0 = .ok (.iload_n 1, 1) := by decide +kernel
theorem dX5_isRider_1 : decode cX5_isRider 1 = .ok (.iconst 0, 1) := by decide +kernel
theorem dX5_isRider_2 : decode cX5_isRider 2 = .ok (.aload_n 0, 1) := by decide +kernel
theorem dX5_isRider_3 : decode cX5_isRider 3 = .ok (.getfield 74, 3) := by decide +kernel
theorem dX5_isRider_6 : decode cX5_isRider 6 = .ok (.iconst 1, 1) := by decide +kernel
theorem dX5_isRider_7 : decode cX5_isRider 7 = .ok (.isub, 1) := by decide +kernel
theorem dX5_isRider_8 : decode cX5_isRider 8 = .ok (.invokestatic 7, 3) := by decide +kernel
theorem dX5_isRider_11 : decode cX5_isRider 11 = .ok (.ireturn, 1) := by decide +kernel
theorem dX5_isLift_0 : decode cX5_isLift 0 = .ok (.iload_n 1, 1) := by decide +kernel
theorem dX5_isLift_1 : decode cX5_isLift 1 = .ok (.iconst 0, 1) := by decide +kernel
theorem dX5_isLift_2 : decode cX5_isLift 2 = .ok (.aload_n 0, 1) := by decide +kernel
theorem dX5_isLift_3 : decode cX5_isLift 3 = .ok (.getfield 77, 3) := by decide +kernel
theorem dX5_isLift_6 : decode cX5_isLift 6 = .ok (.iconst 1, 1) := by decide +kernel
theorem dX5_isLift_7 : decode cX5_isLift 7 = .ok (.isub, 1) := by decide +kernel
theorem dX5_isLift_8 : decode cX5_isLift 8 = .ok (.invokestatic 7, 3) := by decide +kernel
theorem dX5_isLift_11 : decode cX5_isLift 11 = .ok (.ireturn, 1) := by decide +kernel
theorem dX5_addLift_0 : decode cX5_addLift 0 = .ok (.aload_n 0, 1) := by decide +kernel
theorem dX5_addLift_1 : decode cX5_addLift 1 = .ok (.iconst 0, 1) := by decide +kernel
theorem dX5_addLift_2 : decode cX5_addLift 2 = .ok (.putfield 1, 3) := by decide +kernel
theorem dX5_addLift_5 : decode cX5_addLift 5 = .ok (.iload_n 1, 1) := by decide +kernel
theorem dX5_addLift_6 : decode cX5_addLift 6 = .ok (.iconst 1, 1) := by decide +kernel
theorem dX5_addLift_7 : decode cX5_addLift 7 = .ok (.iconst 4, 1) := by decide +kernel
theorem dX5_addLift_8 : decode cX5_addLift 8 = .ok (.invokestatic 7, 3) := by decide +kernel
theorem dX5_addLift_11 : decode cX5_addLift 11 = .ok (.ifCond .ne 9, 3) := by decide +kernel
theorem dX5_addLift_14 : decode cX5_addLift 14 = .ok (.aload_n 0, 1) := by decide +kernel
theorem dX5_addLift_15 : decode cX5_addLift 15 = .ok (.iconst 1, 1) := by decide +kernel
theorem dX5_addLift_16 : decode cX5_addLift 16 = .ok (.invokevirtual 80, 3) := by decide +kernel
theorem dX5_addLift_19 : decode cX5_addLift 19 = .ok (.ireturn, 1) := by decide +kernel
theorem dX5_addLift_20 : decode cX5_addLift 20 = .ok (.aload_n 0, 1) := by decide +kernel
theorem dX5_addLift_21 : decode cX5_addLift 21 = .ok (.getfield 77, 3) := by decide +kernel
theorem dX5_addLift_24 : decode cX5_addLift 24 = .ok (.iconst 3, 1) := by decide +kernel
theorem dX5_addLift_25 : decode cX5_addLift 25 = .ok (.if_icmp .ne 9, 3) := by decide +kernel
theorem dX5_addLift_28 : decode cX5_addLift 28 = .ok (.aload_n 0, 1) := by decide +kernel
theorem dX5_addLift_29 : decode cX5_addLift 29 = .ok (.iconst 2, 1) := by decide +kernel
theorem dX5_addLift_30 : decode cX5_addLift 30 = .ok (.invokevirtual 80, 3) := by decide +kernel
theorem dX5_addLift_33 : decode cX5_addLift 33 = .ok (.ireturn, 1) := by decide +kernel
theorem dX5_addLift_34 : decode cX5_addLift 34 = .ok (.aload_n 0, 1) := by decide +kernel
theorem dX5_addLift_35 : decode cX5_addLift 35 = .ok (.getfield 56, 3) := by decide +kernel
theorem dX5_addLift_38 : decode cX5_addLift 38 = .ok (.aload_n 0, 1) := by decide +kernel
theorem dX5_addLift_39 : decode cX5_addLift 39 = .ok (.getfield 77, 3) := by decide +kernel
theorem dX5_addLift_42 : decode cX5_addLift 42 = .ok (.iload_n 1, 1) := by decide +kernel
theorem dX5_addLift_43 : decode cX5_addLift 43 = .ok (.iastore, 1) := by decide +kernel
theorem dX5_addLift_44 : decode cX5_addLift 44 = .ok (.aload_n 0, 1) := by decide +kernel
theorem dX5_addLift_45 : decode cX5_addLift 45 = .ok (.getfield 65, 3) := by decide +kernel
theorem dX5_addLift_48 : decode cX5_addLift 48 = .ok (.aload_n 0, 1) := by decide +kernel
theorem dX5_addLift_49 : decode cX5_addLift 49 = .ok (.getfield 77, 3) := by decide +kernel
theorem dX5_addLift_52 : decode cX5_addLift 52 = .ok (.bipush 115, 2) := by decide +kernel
theorem dX5_addLift_54 : decode cX5_addLift 54 = .ok (.castore, 1) := by decide +kernel
theorem dX5_addLift_55 : decode cX5_addLift 55 = .ok (.aload_n 0, 1) := by decide +kernel
theorem dX5_addLift_56 : decode cX5_addLift 56 = .ok (.getfield 68, 3) := by decide +kernel
theorem dX5_addLift_59 : decode cX5_addLift 59 = .ok (.aload_n 0, 1) := by decide +kernel
theorem dX5_addLift_60 : decode cX5_addLift 60 = .ok (.getfield 77, 3) := by decide +kernel
theorem dX5_addLift_63 : decode cX5_addLift 63 = .ok (.iconst 1, 1) := by decide +kernel
theorem dX5_addLift_64 : decode cX5_addLift 64 = .ok (.bastore, 1) := by decide +kernel
theorem dX5_addLift_65 : decode cX5_addLift 65 = .ok (.aload_n 0, 1) := by decide +kernel
theorem dX5_addLift_66 : decode cX5_addLift 66 = .ok (.dup, 1) := by decide +kernel
theorem dX5_addLift_67 : decode cX5_addLift 67 = .ok (.getfield 77, 3) := by decide +kernel
theorem dX5_addLift_70 : decode cX5_addLift 70 = .ok (.iconst 1, 1) := by decide +kernel
theorem dX5_addLift_71 : decode cX5_addLift 71 = .ok (.iadd, 1) := by decide +kernel
theorem dX5_addLift_72 : decode cX5_addLift 72 = .ok (.putfield 77, 3) := by decide +kernel
theorem dX5_addLift_75 : decode cX5_addLift 75 = .ok (.aload_n 0, 1) := by decide +kernel
theorem dX5_addLift_76 : decode cX5_addLift 76 = .ok (.getfield 77, 3) := by decide +kernel
theorem dX5_addLift_79 : decode cX5_addLift 79 = .ok (.iconst 1, 1) := by decide +kernel
theorem dX5_addLift_80 : decode cX5_addLift 80 = .ok (.isub, 1) := by decide +kernel
theorem dX5_addLift_81 : decode cX5_addLift 81 = .ok (.ireturn, 1) := by decide +kernel
theorem dX5_setTenant_0 : decode cX5_setTenant 0 = .ok (.aload_n 0, 1) := by decide +kernel
theorem dX5_setTenant_1 : decode cX5_setTenant 1 = .ok (.iconst 0, 1) := by decide +kernel
theorem dX5_setTenant_2 : decode cX5_setTenant 2 = .ok (.putfield 1, 3) := by decide +kernel
theorem dX5_setTenant_5 : decode cX5_setTenant 5 = .ok (.iload_n 1, 1) := by decide +kernel
theorem dX5_setTenant_6 : decode cX5_setTenant 6 = .ok (.iconst 1, 1) := by decide +kernel
theorem dX5_setTenant_7 : decode cX5_setTenant 7 = .ok (.bipush 9, 2) := by decide +kernel
theorem dX5_setTenant_9 : decode cX5_setTenant 9 = .ok (.invokestatic 7, 3) := by decide +kernel
theorem dX5_setTenant_12 : decode cX5_setTenant 12 = .ok (.ifCond .ne 9, 3) := by decide +kernel
theorem dX5_setTenant_15 : decode cX5_setTenant 15 = .ok (.aload_n 0, 1) := by decide +kernel
theorem dX5_setTenant_16 : decode cX5_setTenant 16 = .ok (.iconst 1, 1) := by decide +kernel
theorem dX5_setTenant_17 : decode cX5_setTenant 17 = .ok (.invokevirtual 80, 3) := by decide +kernel
theorem dX5_setTenant_20 : decode cX5_setTenant 20 = .ok (.ireturn, 1) := by decide +kernel
theorem dX5_setTenant_21 : decode cX5_setTenant 21 = .ok (.iload_n 2, 1) := by decide +kernel
theorem dX5_setTenant_22 : decode cX5_setTenant 22 = .ok (.iconst (-1), 1) := by decide +kernel
theorem dX5_setTenant_23 : decode cX5_setTenant 23 = .ok (.iconst 3, 1) := by decide +kernel
theorem dX5_setTenant_24 : decode cX5_setTenant 24 = .ok (.invokestatic 7, 3) := by decide +kernel
theorem dX5_setTenant_27 : decode cX5_setTenant 27 = .ok (.ifCond .ne 9, 3) := by decide +kernel
theorem dX5_setTenant_30 : decode cX5_setTenant 30 = .ok (.aload_n 0, 1) := by decide +kernel
theorem dX5_setTenant_31 : decode cX5_setTenant 31 = .ok (.iconst 2, 1) := by decide +kernel
theorem dX5_setTenant_32 : decode cX5_setTenant 32 = .ok (.invokevirtual 80, 3) := by decide +kernel
theorem dX5_setTenant_35 : decode cX5_setTenant 35 = .ok (.ireturn, 1) := by decide +kernel
theorem dX5_setTenant_36 : decode cX5_setTenant 36 = .ok (.aload_n 0, 1) := by decide +kernel
theorem dX5_setTenant_37 : decode cX5_setTenant 37 = .ok (.getfield 17, 3) := by decide +kernel
theorem dX5_setTenant_40 : decode cX5_setTenant 40 = .ok (.iload_n 1, 1) := by decide +kernel
theorem dX5_setTenant_41 : decode cX5_setTenant 41 = .ok (.iaload, 1) := by decide +kernel
theorem dX5_setTenant_42 : decode cX5_setTenant 42 = .ok (.istore_n 3, 1) := by decide +kernel
theorem dX5_setTenant_43 : decode cX5_setTenant 43 = .ok (.aload_n 0, 1) := by decide +kernel
theorem dX5_setTenant_44 : decode cX5_setTenant 44 = .ok (.getfield 17, 3) := by decide +kernel
theorem dX5_setTenant_47 : decode cX5_setTenant 47 = .ok (.iload_n 1, 1) := by decide +kernel
theorem dX5_setTenant_48 : decode cX5_setTenant 48 = .ok (.iload_n 2, 1) := by decide +kernel
theorem dX5_setTenant_49 : decode cX5_setTenant 49 = .ok (.iastore, 1) := by decide +kernel
theorem dX5_setTenant_50 : decode cX5_setTenant 50 = .ok (.iload_n 3, 1) := by decide +kernel
theorem dX5_setTenant_51 : decode cX5_setTenant 51 = .ok (.ireturn, 1) := by decide +kernel
theorem dX5_setHours_0 : decode cX5_setHours 0 = .ok (.aload_n 0, 1) := by decide +kernel
theorem dX5_setHours_1 : decode cX5_setHours 1 = .ok (.iconst 0, 1) := by decide +kernel
theorem dX5_setHours_2 : decode cX5_setHours 2 = .ok (.putfield 1, 3) := by decide +kernel
theorem dX5_setHours_5 : decode cX5_setHours 5 = .ok (.iload_n 1, 1) := by decide +kernel
theorem dX5_setHours_6 : decode cX5_setHours 6 = .ok (.iconst 1, 1) := by decide +kernel
theorem dX5_setHours_7 : decode cX5_setHours 7 = .ok (.bipush 9, 2) := by decide +kernel
theorem dX5_setHours_9 : decode cX5_setHours 9 = .ok (.invokestatic 7, 3) := by decide +kernel
theorem dX5_setHours_12 : decode cX5_setHours 12 = .ok (.ifCond .ne 9, 3) := by decide +kernel
theorem dX5_setHours_15 : decode cX5_setHours 15 = .ok (.aload_n 0, 1) := by decide +kernel
theorem dX5_setHours_16 : decode cX5_setHours 16 = .ok (.iconst 1, 1) := by decide +kernel
theorem dX5_setHours_17 : decode cX5_setHours 17 = .ok (.invokevirtual 80, 3) := by decide +kernel
theorem dX5_setHours_20 : decode cX5_setHours 20 = .ok (.ireturn, 1) := by decide +kernel
theorem dX5_setHours_21 : decode cX5_setHours 21 = .ok (.iload_n 2, 1) := by decide +kernel
theorem dX5_setHours_22 : decode cX5_setHours 22 = .ok (.iconst 0, 1) := by decide +kernel
theorem dX5_setHours_23 : decode cX5_setHours 23 = .ok (.bipush 99, 2) := by decide +kernel
theorem dX5_setHours_25 : decode cX5_setHours 25 = .ok (.invokestatic 7, 3) := by decide +kernel
theorem dX5_setHours_28 : decode cX5_setHours 28 = .ok (.ifCond .eq 15, 3) := by decide +kernel
theorem dX5_setHours_31 : decode cX5_setHours 31 = .ok (.iload_n 3, 1) := by decide +kernel
theorem dX5_setHours_32 : decode cX5_setHours 32 = .ok (.iload_n 2, 1) := by decide +kernel
theorem dX5_setHours_33 : decode cX5_setHours 33 = .ok (.iconst 1, 1) := by decide +kernel
theorem dX5_setHours_34 : decode cX5_setHours 34 = .ok (.iadd, 1) := by decide +kernel
theorem dX5_setHours_35 : decode cX5_setHours 35 = .ok (.bipush 100, 2) := by decide +kernel
theorem dX5_setHours_37 : decode cX5_setHours 37 = .ok (.invokestatic 7, 3) := by decide +kernel
theorem dX5_setHours_40 : decode cX5_setHours 40 = .ok (.ifCond .ne 9, 3) := by decide +kernel
theorem dX5_setHours_43 : decode cX5_setHours 43 = .ok (.aload_n 0, 1) := by decide +kernel
theorem dX5_setHours_44 : decode cX5_setHours 44 = .ok (.iconst 2, 1) := by decide +kernel
theorem dX5_setHours_45 : decode cX5_setHours 45 = .ok (.invokevirtual 80, 3) := by decide +kernel
theorem dX5_setHours_48 : decode cX5_setHours 48 = .ok (.ireturn, 1) := by decide +kernel
theorem dX5_setHours_49 : decode cX5_setHours 49 = .ok (.aload_n 0, 1) := by decide +kernel
theorem dX5_setHours_50 : decode cX5_setHours 50 = .ok (.getfield 21, 3) := by decide +kernel
theorem dX5_setHours_53 : decode cX5_setHours 53 = .ok (.iload_n 1, 1) := by decide +kernel
theorem dX5_setHours_54 : decode cX5_setHours 54 = .ok (.iload_n 2, 1) := by decide +kernel
theorem dX5_setHours_55 : decode cX5_setHours 55 = .ok (.iastore, 1) := by decide +kernel
theorem dX5_setHours_56 : decode cX5_setHours 56 = .ok (.aload_n 0, 1) := by decide +kernel
theorem dX5_setHours_57 : decode cX5_setHours 57 = .ok (.getfield 24, 3) := by decide +kernel
theorem dX5_setHours_60 : decode cX5_setHours 60 = .ok (.iload_n 1, 1) := by decide +kernel
theorem dX5_setHours_61 : decode cX5_setHours 61 = .ok (.iload_n 3, 1) := by decide +kernel
theorem dX5_setHours_62 : decode cX5_setHours 62 = .ok (.iastore, 1) := by decide +kernel
theorem dX5_setHours_63 : decode cX5_setHours 63 = .ok (.iload_n 3, 1) := by decide +kernel
theorem dX5_setHours_64 : decode cX5_setHours 64 = .ok (.iload_n 2, 1) := by decide +kernel
theorem dX5_setHours_65 : decode cX5_setHours 65 = .ok (.isub, 1) := by decide +kernel
theorem dX5_setHours_66 : decode cX5_setHours 66 = .ok (.ireturn, 1) := by decide +kernel
theorem dX5_addBadge_0 : decode cX5_addBadge 0 = .ok (.aload_n 0, 1) := by decide +kernel
theorem dX5_addBadge_1 : decode cX5_addBadge 1 = .ok (.iconst 0, 1) := by decide +kernel
theorem dX5_addBadge_2 : decode cX5_addBadge 2 = .ok (.putfield 1, 3) := by decide +kernel
theorem dX5_addBadge_5 : decode cX5_addBadge 5 = .ok (.iload_n 1, 1) := by decide +kernel
theorem dX5_addBadge_6 : decode cX5_addBadge 6 = .ok (.iconst 0, 1) := by decide +kernel
theorem dX5_addBadge_7 : decode cX5_addBadge 7 = .ok (.iconst 3, 1) := by decide +kernel
theorem dX5_addBadge_8 : decode cX5_addBadge 8 = .ok (.invokestatic 7, 3) := by decide +kernel
theorem dX5_addBadge_11 : decode cX5_addBadge 11 = .ok (.ifCond .ne 9, 3) := by decide +kernel
theorem dX5_addBadge_14 : decode cX5_addBadge 14 = .ok (.aload_n 0, 1) := by decide +kernel
theorem dX5_addBadge_15 : decode cX5_addBadge 15 = .ok (.iconst 1, 1) := by decide +kernel
theorem dX5_addBadge_16 : decode cX5_addBadge 16 = .ok (.invokevirtual 80, 3) := by decide +kernel
theorem dX5_addBadge_19 : decode cX5_addBadge 19 = .ok (.ireturn, 1) := by decide +kernel
theorem dX5_addBadge_20 : decode cX5_addBadge 20 = .ok (.aload_n 0, 1) := by decide +kernel
theorem dX5_addBadge_21 : decode cX5_addBadge 21 = .ok (.getfield 71, 3) := by decide +kernel
theorem dX5_addBadge_24 : decode cX5_addBadge 24 = .ok (.bipush 8, 2) := by decide +kernel
theorem dX5_addBadge_26 : decode cX5_addBadge 26 = .ok (.if_icmp .ne 9, 3) := by decide +kernel
theorem dX5_addBadge_29 : decode cX5_addBadge 29 = .ok (.aload_n 0, 1) := by decide +kernel
theorem dX5_addBadge_30 : decode cX5_addBadge 30 = .ok (.iconst 2, 1) := by decide +kernel
theorem dX5_addBadge_31 : decode cX5_addBadge 31 = .ok (.invokevirtual 80, 3) := by decide +kernel
theorem dX5_addBadge_34 : decode cX5_addBadge 34 = .ok (.ireturn, 1) := by decide +kernel
theorem dX5_addBadge_35 : decode cX5_addBadge 35 = .ok (.aload_n 0, 1) := by decide +kernel
theorem dX5_addBadge_36 : decode cX5_addBadge 36 = .ok (.getfield 27, 3) := by decide +kernel
theorem dX5_addBadge_39 : decode cX5_addBadge 39 = .ok (.aload_n 0, 1) := by decide +kernel
theorem dX5_addBadge_40 : decode cX5_addBadge 40 = .ok (.getfield 71, 3) := by decide +kernel
theorem dX5_addBadge_43 : decode cX5_addBadge 43 = .ok (.iload_n 1, 1) := by decide +kernel
theorem dX5_addBadge_44 : decode cX5_addBadge 44 = .ok (.iastore, 1) := by decide +kernel
theorem dX5_addBadge_45 : decode cX5_addBadge 45 = .ok (.aload_n 0, 1) := by decide +kernel
theorem dX5_addBadge_46 : decode cX5_addBadge 46 = .ok (.dup, 1) := by decide +kernel
theorem dX5_addBadge_47 : decode cX5_addBadge 47 = .ok (.getfield 71, 3) := by decide +kernel
theorem dX5_addBadge_50 : decode cX5_addBadge 50 = .ok (.iconst 1, 1) := by decide +kernel
theorem dX5_addBadge_51 : decode cX5_addBadge 51 = .ok (.iadd, 1) := by decide +kernel
theorem dX5_addBadge_52 : decode cX5_addBadge 52 = .ok (.putfield 71, 3) := by decide +kernel
theorem dX5_addBadge_55 : decode cX5_addBadge 55 = .ok (.aload_n 0, 1) := by decide +kernel
theorem dX5_addBadge_56 : decode cX5_addBadge 56 = .ok (.getfield 71, 3) := by decide +kernel
theorem dX5_addBadge_59 : decode cX5_addBadge 59 = .ok (.iconst 1, 1) := by decide +kernel
theorem dX5_addBadge_60 : decode cX5_addBadge 60 = .ok (.isub, 1) := by decide +kernel
theorem dX5_addBadge_61 : decode cX5_addBadge 61 = .ok (.ireturn, 1) := by decide +kernel
theorem dX5_setRevoked_0 : decode cX5_setRevoked 0 = .ok (.aload_n 0, 1) := by decide +kernel
theorem dX5_setRevoked_1 : decode cX5_setRevoked 1 = .ok (.iconst 0, 1) := by decide +kernel
theorem dX5_setRevoked_2 : decode cX5_setRevoked 2 = .ok (.putfield 1, 3) := by decide +kernel
theorem dX5_setRevoked_5 : decode cX5_setRevoked 5 = .ok (.aload_n 0, 1) := by decide +kernel
theorem dX5_setRevoked_6 : decode cX5_setRevoked 6 = .ok (.iload_n 1, 1) := by decide +kernel
theorem dX5_setRevoked_7 : decode cX5_setRevoked 7 = .ok (.invokevirtual 84, 3) := by decide +kernel
theorem dX5_setRevoked_10 : decode cX5_setRevoked 10 = .ok (.ifCond .ne 9, 3) := by decide +kernel
theorem dX5_setRevoked_13 : decode cX5_setRevoked 13 = .ok (.aload_n 0, 1) := by decide +kernel
theorem dX5_setRevoked_14 : decode cX5_setRevoked 14 = .ok (.iconst 1, 1) := by decide +kernel
theorem dX5_setRevoked_15 : decode cX5_setRevoked 15 = .ok (.invokevirtual 88, 3) := by decide +kernel
theorem dX5_setRevoked_18 : decode cX5_setRevoked 18 = .ok (.ireturn, 1) := by decide +kernel
theorem dX5_setRevoked_19 : decode cX5_setRevoked 19 = .ok (.aload_n 0, 1) := by decide +kernel
theorem dX5_setRevoked_20 : decode cX5_setRevoked 20 = .ok (.getfield 30, 3) := by decide +kernel
theorem dX5_setRevoked_23 : decode cX5_setRevoked 23 = .ok (.iload_n 1, 1) := by decide +kernel
theorem dX5_setRevoked_24 : decode cX5_setRevoked 24 = .ok (.baload, 1) := by decide +kernel
theorem dX5_setRevoked_25 : decode cX5_setRevoked 25 = .ok (.istore_n 3, 1) := by decide +kernel
theorem dX5_setRevoked_26 : decode cX5_setRevoked 26 = .ok (.aload_n 0, 1) := by decide +kernel
theorem dX5_setRevoked_27 : decode cX5_setRevoked 27 = .ok (.getfield 30, 3) := by decide +kernel
theorem dX5_setRevoked_30 : decode cX5_setRevoked 30 = .ok (.iload_n 1, 1) := by decide +kernel
theorem dX5_setRevoked_31 : decode cX5_setRevoked 31 = .ok (.iload_n 2, 1) := by decide +kernel
theorem dX5_setRevoked_32 : decode cX5_setRevoked 32 = .ok (.bastore, 1) := by decide +kernel
theorem dX5_setRevoked_33 : decode cX5_setRevoked 33 = .ok (.iload_n 3, 1) := by decide +kernel
theorem dX5_setRevoked_34 : decode cX5_setRevoked 34 = .ok (.ireturn, 1) := by decide +kernel
theorem dX5_why_0 : decode cX5_why 0 = .ok (.iload_n 2, 1) := by decide +kernel
theorem dX5_why_1 : decode cX5_why 1 = .ok (.ifCond .ne 6, 3) := by decide +kernel
theorem dX5_why_4 : decode cX5_why 4 = .ok (.bipush 110, 2) := by decide +kernel
theorem dX5_why_6 : decode cX5_why 6 = .ok (.ireturn, 1) := by decide +kernel
theorem dX5_why_7 : decode cX5_why 7 = .ok (.aload_n 0, 1) := by decide +kernel
theorem dX5_why_8 : decode cX5_why 8 = .ok (.getfield 30, 3) := by decide +kernel
theorem dX5_why_11 : decode cX5_why 11 = .ok (.iload_n 1, 1) := by decide +kernel
theorem dX5_why_12 : decode cX5_why 12 = .ok (.baload, 1) := by decide +kernel
theorem dX5_why_13 : decode cX5_why 13 = .ok (.ifCond .eq 6, 3) := by decide +kernel
theorem dX5_why_16 : decode cX5_why 16 = .ok (.bipush 114, 2) := by decide +kernel
theorem dX5_why_18 : decode cX5_why 18 = .ok (.ireturn, 1) := by decide +kernel
theorem dX5_why_19 : decode cX5_why 19 = .ok (.aload_n 0, 1) := by decide +kernel
theorem dX5_why_20 : decode cX5_why 20 = .ok (.getfield 17, 3) := by decide +kernel
theorem dX5_why_23 : decode cX5_why 23 = .ok (.iload_n 2, 1) := by decide +kernel
theorem dX5_why_24 : decode cX5_why 24 = .ok (.iaload, 1) := by decide +kernel
theorem dX5_why_25 : decode cX5_why 25 = .ok (.iconst (-1), 1) := by decide +kernel
theorem dX5_why_26 : decode cX5_why 26 = .ok (.if_icmp .eq 26, 3) := by decide +kernel
theorem dX5_why_29 : decode cX5_why 29 = .ok (.aload_n 0, 1) := by decide +kernel
theorem dX5_why_30 : decode cX5_why 30 = .ok (.getfield 17, 3) := by decide +kernel
theorem dX5_why_33 : decode cX5_why 33 = .ok (.iload_n 2, 1) := by decide +kernel
theorem dX5_why_34 : decode cX5_why 34 = .ok (.iaload, 1) := by decide +kernel
theorem dX5_why_35 : decode cX5_why 35 = .ok (.aload_n 0, 1) := by decide +kernel
theorem dX5_why_36 : decode cX5_why 36 = .ok (.getfield 27, 3) := by decide +kernel
theorem dX5_why_39 : decode cX5_why 39 = .ok (.iload_n 1, 1) := by decide +kernel
theorem dX5_why_40 : decode cX5_why 40 = .ok (.iaload, 1) := by decide +kernel
theorem dX5_why_41 : decode cX5_why 41 = .ok (.if_icmp .ne 8, 3) := by decide +kernel
theorem dX5_why_44 : decode cX5_why 44 = .ok (.bipush 110, 2) := by decide +kernel
theorem dX5_why_46 : decode cX5_why 46 = .ok (.goto 5, 3) := by decide +kernel
theorem dX5_why_49 : decode cX5_why 49 = .ok (.bipush 116, 2) := by decide +kernel
theorem dX5_why_51 : decode cX5_why 51 = .ok (.ireturn, 1) := by decide +kernel
theorem dX5_why_52 : decode cX5_why 52 = .ok (.aload_n 0, 1) := by decide +kernel
theorem dX5_why_53 : decode cX5_why 53 = .ok (.getfield 91, 3) := by decide +kernel
theorem dX5_why_56 : decode cX5_why 56 = .ok (.bipush 100, 2) := by decide +kernel
theorem dX5_why_58 : decode cX5_why 58 = .ok (.irem, 1) := by decide +kernel
theorem dX5_why_59 : decode cX5_why 59 = .ok (.aload_n 0, 1) := by decide +kernel
theorem dX5_why_60 : decode cX5_why 60 = .ok (.getfield 21, 3) := by decide +kernel
theorem dX5_why_63 : decode cX5_why 63 = .ok (.iload_n 2, 1) := by decide +kernel
theorem dX5_why_64 : decode cX5_why 64 = .ok (.iaload, 1) := by decide +kernel
theorem dX5_why_65 : decode cX5_why 65 = .ok (.aload_n 0, 1) := by decide +kernel
theorem dX5_why_66 : decode cX5_why 66 = .ok (.getfield 24, 3) := by decide +kernel
theorem dX5_why_69 : decode cX5_why 69 = .ok (.iload_n 2, 1) := by decide +kernel
theorem dX5_why_70 : decode cX5_why 70 = .ok (.iaload, 1) := by decide +kernel
theorem dX5_why_71 : decode cX5_why 71 = .ok (.iconst 1, 1) := by decide +kernel
theorem dX5_why_72 : decode cX5_why 72 = .ok (.isub, 1) := by decide +kernel
theorem dX5_why_73 : decode cX5_why 73 = .ok (.invokestatic 7, 3) := by decide +kernel
theorem dX5_why_76 : decode cX5_why 76 = .ok (.ifCond .eq 8, 3) := by decide +kernel
theorem dX5_why_79 : decode cX5_why 79 = .ok (.bipush 110, 2) := by decide +kernel
theorem dX5_why_81 : decode cX5_why 81 = .ok (.goto 5, 3) := by decide +kernel
theorem dX5_why_84 : decode cX5_why 84 = .ok (.bipush 104, 2) := by decide +kernel
theorem dX5_why_86 : decode cX5_why 86 = .ok (.ireturn, 1) := by decide +kernel
theorem dX5_reason_0 : decode cX5_reason 0 = .ok (.aload_n 0, 1) := by decide +kernel
theorem dX5_reason_1 : decode cX5_reason 1 = .ok (.iconst 0, 1) := by decide +kernel
theorem dX5_reason_2 : decode cX5_reason 2 = .ok (.putfield 1, 3) := by decide +kernel
theorem dX5_reason_5 : decode cX5_reason 5 = .ok (.aload_n 0, 1) := by decide +kernel
theorem dX5_reason_6 : decode cX5_reason 6 = .ok (.iload_n 1, 1) := by decide +kernel
theorem dX5_reason_7 : decode cX5_reason 7 = .ok (.invokevirtual 84, 3) := by decide +kernel
theorem dX5_reason_10 : decode cX5_reason 10 = .ok (.ifCond .eq 19, 3) := by decide +kernel
theorem dX5_reason_13 : decode cX5_reason 13 = .ok (.iload_n 2, 1) := by decide +kernel
theorem dX5_reason_14 : decode cX5_reason 14 = .ok (.invokestatic 94, 3) := by decide +kernel
theorem dX5_reason_17 : decode cX5_reason 17 = .ok (.ifCond .eq 12, 3) := by decide +kernel
theorem dX5_reason_20 : decode cX5_reason 20 = .ok (.aload_n 0, 1) := by decide +kernel
theorem dX5_reason_21 : decode cX5_reason 21 = .ok (.iload_n 1, 1) := by decide +kernel
theorem dX5_reason_22 : decode cX5_reason 22 = .ok (.iload_n 2, 1) := by decide +kernel
theorem dX5_reason_23 : decode cX5_reason 23 = .ok (.invokevirtual 97, 3) := by decide +kernel
theorem dX5_reason_26 : decode cX5_reason 26 = .ok (.goto 9, 3) := by decide +kernel
theorem dX5_reason_29 : decode cX5_reason 29 = .ok (.aload_n 0, 1) := by decide +kernel
theorem dX5_reason_30 : decode cX5_reason 30 = .ok (.iconst 1, 1) := by decide +kernel
theorem dX5_reason_31 : decode cX5_reason 31 = .ok (.invokevirtual 80, 3) := by decide +kernel
theorem dX5_reason_34 : decode cX5_reason 34 = .ok (.i2c, 1) := by decide +kernel
theorem dX5_reason_35 : decode cX5_reason 35 = .ok (.ireturn, 1) := by decide +kernel
theorem dX5_aboardMany_0 : decode cX5_aboardMany 0 = .ok (.iconst 0, 1) := by decide +kernel
theorem dX5_aboardMany_1 : decode cX5_aboardMany 1 = .ok (.istore_n 2, 1) := by decide +kernel
theorem dX5_aboardMany_2 : decode cX5_aboardMany 2 = .ok (.iconst 0, 1) := by decide +kernel
theorem dX5_aboardMany_3 : decode cX5_aboardMany 3 = .ok (.istore_n 3, 1) := by decide +kernel
theorem dX5_aboardMany_4 : decode cX5_aboardMany 4 = .ok (.iload_n 3, 1) := by decide +kernel
theorem dX5_aboardMany_5 : decode cX5_aboardMany 5 = .ok (.aload_n 0, 1) := by decide +kernel
theorem dX5_aboardMany_6 : decode cX5_aboardMany 6 = .ok (.getfield 74, 3) := by decide +kernel
theorem dX5_aboardMany_9 : decode cX5_aboardMany 9 = .ok (.if_icmp .ge 38, 3) := by decide +kernel
theorem dX5_aboardMany_12 : decode cX5_aboardMany 12 = .ok (.iload_n 2, 1) := by decide +kernel
theorem dX5_aboardMany_13 : decode cX5_aboardMany 13 = .ok (.aload_n 0, 1) := by decide +kernel
theorem dX5_aboardMany_14 : decode cX5_aboardMany 14 = .ok (.getfield 52, 3) := by decide +kernel
theorem dX5_aboardMany_17 : decode cX5_aboardMany 17 = .ok (.iload_n 3, 1) := by decide +kernel
theorem dX5_aboardMany_18 : decode cX5_aboardMany 18 = .ok (.caload, 1) := by decide +kernel
theorem dX5_aboardMany_19 : decode cX5_aboardMany 19 = .ok (.bipush 97, 2) := by decide +kernel
theorem dX5_aboardMany_21 : decode cX5_aboardMany 21 = .ok (.if_icmp .ne 17, 3) := by decide +kernel
theorem dX5_aboardMany_24 : decode cX5_aboardMany 24 = .ok (.aload_n 0, 1) := by decide +kernel
theorem dX5_aboardMany_25 : decode cX5_aboardMany 25 = .ok (.getfield 43, 3) := by decide +kernel
theorem dX5_aboardMany_28 : decode cX5_aboardMany 28 = .ok (.iload_n 3, 1) := by decide +kernel
theorem dX5_aboardMany_29 : decode cX5_aboardMany 29 = .ok (.iaload, 1) := by decide +kernel
theorem dX5_aboardMany_30 : decode cX5_aboardMany 30 = .ok (.iload_n 1, 1) := by decide +kernel
theorem dX5_aboardMany_31 : decode cX5_aboardMany 31 = .ok (.if_icmp .ne 7, 3) := by decide +kernel
theorem dX5_aboardMany_34 : decode cX5_aboardMany 34 = .ok (.iconst 1, 1) := by decide +kernel
theorem dX5_aboardMany_35 : decode cX5_aboardMany 35 = .ok (.goto 4, 3) := by decide +kernel
theorem dX5_aboardMany_38 : decode cX5_aboardMany 38 = .ok (.iconst 0, 1) := by decide +kernel
theorem dX5_aboardMany_39 : decode cX5_aboardMany 39 = .ok (.iadd, 1) := by decide +kernel
theorem dX5_aboardMany_40 : decode cX5_aboardMany 40 = .ok (.istore_n 2, 1) := by decide +kernel
theorem dX5_aboardMany_41 : decode cX5_aboardMany 41 = .ok (.iinc 3 1, 3) := by decide +kernel
theorem dX5_aboardMany_44 : decode cX5_aboardMany 44 = .ok (.goto (-40), 3) := by decide +kernel
theorem dX5_aboardMany_47 : decode cX5_aboardMany 47 = .ok (.iload_n 2, 1) := by decide +kernel
theorem dX5_aboardMany_48 : decode cX5_aboardMany 48 = .ok (.ireturn, 1) := by decide +kernel
theorem dX5_scoreOf_0 : decode cX5_scoreOf 0 = .ok (.iconst 0, 1) := by decide +kernel
theorem dX5_scoreOf_1 : decode cX5_scoreOf 1 = .ok (.istore_n 3, 1) := by decide +kernel
theorem dX5_scoreOf_2 : decode cX5_scoreOf 2 = .ok (.iconst 0, 1) := by decide +kernel
theorem dX5_scoreOf_3 : decode cX5_scoreOf 3 = .ok (.istore 4, 2) := by decide +kernel
theorem dX5_scoreOf_5 : decode cX5_scoreOf 5 = .ok (.iload 4, 2) := by decide +kernel
theorem dX5_scoreOf_7 : decode cX5_scoreOf 7 = .ok (.aload_n 0, 1) := by decide +kernel
theorem dX5_scoreOf_8 : decode cX5_scoreOf 8 = .ok (.getfield 74, 3) := by decide +kernel
theorem dX5_scoreOf_11 : decode cX5_scoreOf 11 = .ok (.if_icmp .ge 40, 3) := by decide +kernel
theorem dX5_scoreOf_14 : decode cX5_scoreOf 14 = .ok (.iload_n 3, 1) := by decide +kernel
theorem dX5_scoreOf_15 : decode cX5_scoreOf 15 = .ok (.aload_n 0, 1) := by decide +kernel
theorem dX5_scoreOf_16 : decode cX5_scoreOf 16 = .ok (.getfield 52, 3) := by decide +kernel
theorem dX5_scoreOf_19 : decode cX5_scoreOf 19 = .ok (.iload 4, 2) := by decide +kernel
theorem dX5_scoreOf_21 : decode cX5_scoreOf 21 = .ok (.caload, 1) := by decide +kernel
theorem dX5_scoreOf_22 : decode cX5_scoreOf 22 = .ok (.bipush 100, 2) := by decide +kernel
theorem dX5_scoreOf_24 : decode cX5_scoreOf 24 = .ok (.if_icmp .eq 18, 3) := by decide +kernel
theorem dX5_scoreOf_27 : decode cX5_scoreOf 27 = .ok (.aload_n 0, 1) := by decide +kernel
theorem dX5_scoreOf_28 : decode cX5_scoreOf 28 = .ok (.getfield 43, 3) := by decide +kernel
theorem dX5_scoreOf_31 : decode cX5_scoreOf 31 = .ok (.iload 4, 2) := by decide +kernel
theorem dX5_scoreOf_33 : decode cX5_scoreOf 33 = .ok (.iaload, 1) := by decide +kernel
theorem dX5_scoreOf_34 : decode cX5_scoreOf 34 = .ok (.iload_n 1, 1) := by decide +kernel
theorem dX5_scoreOf_35 : decode cX5_scoreOf 35 = .ok (.if_icmp .ne 7, 3) := by decide +kernel
theorem dX5_scoreOf_38 : decode cX5_scoreOf 38 = .ok (.iconst 1, 1) := by decide +kernel
theorem dX5_scoreOf_39 : decode cX5_scoreOf 39 = .ok (.goto 4, 3) := by decide +kernel
theorem dX5_scoreOf_42 : decode cX5_scoreOf 42 = .ok (.iconst 0, 1) := by decide +kernel
theorem dX5_scoreOf_43 : decode cX5_scoreOf 43 = .ok (.iadd, 1) := by decide +kernel
theorem dX5_scoreOf_44 : decode cX5_scoreOf 44 = .ok (.istore_n 3, 1) := by decide +kernel
theorem dX5_scoreOf_45 : decode cX5_scoreOf 45 = .ok (.iinc 4 1, 3) := by decide +kernel
theorem dX5_scoreOf_48 : decode cX5_scoreOf 48 = .ok (.goto (-43), 3) := by decide +kernel
theorem dX5_scoreOf_51 : decode cX5_scoreOf 51 = .ok (.aload_n 0, 1) := by decide +kernel
theorem dX5_scoreOf_52 : decode cX5_scoreOf 52 = .ok (.getfield 59, 3) := by decide +kernel
theorem dX5_scoreOf_55 : decode cX5_scoreOf 55 = .ok (.iload_n 1, 1) := by decide +kernel
theorem dX5_scoreOf_56 : decode cX5_scoreOf 56 = .ok (.iaload, 1) := by decide +kernel
theorem dX5_scoreOf_57 : decode cX5_scoreOf 57 = .ok (.iload_n 2, 1) := by decide +kernel
theorem dX5_scoreOf_58 : decode cX5_scoreOf 58 = .ok (.isub, 1) := by decide +kernel
theorem dX5_scoreOf_59 : decode cX5_scoreOf 59 = .ok (.invokestatic 101, 3) := by decide +kernel
theorem dX5_scoreOf_62 : decode cX5_scoreOf 62 = .ok (.iconst 2, 1) := by decide +kernel
theorem dX5_scoreOf_63 : decode cX5_scoreOf 63 = .ok (.iload_n 3, 1) := by decide +kernel
theorem dX5_scoreOf_64 : decode cX5_scoreOf 64 = .ok (.imul, 1) := by decide +kernel
theorem dX5_scoreOf_65 : decode cX5_scoreOf 65 = .ok (.iadd, 1) := by decide +kernel
theorem dX5_scoreOf_66 : decode cX5_scoreOf 66 = .ok (.ireturn, 1) := by decide +kernel
theorem dX5_gives_0 : decode cX5_gives 0 = .ok (.iconst (-1), 1) := by decide +kernel
theorem dX5_gives_1 : decode cX5_gives 1 = .ok (.istore_n 2, 1) := by decide +kernel
theorem dX5_gives_2 : decode cX5_gives 2 = .ok (.iconst 0, 1) := by decide +kernel
theorem dX5_gives_3 : decode cX5_gives 3 = .ok (.istore_n 3, 1) := by decide +kernel
theorem dX5_gives_4 : decode cX5_gives 4 = .ok (.iload_n 3, 1) := by decide +kernel
theorem dX5_gives_5 : decode cX5_gives 5 = .ok (.aload_n 0, 1) := by decide +kernel
theorem dX5_gives_6 : decode cX5_gives 6 = .ok (.getfield 77, 3) := by decide +kernel
theorem dX5_gives_9 : decode cX5_gives 9 = .ok (.if_icmp .ge 51, 3) := by decide +kernel
theorem dX5_gives_12 : decode cX5_gives 12 = .ok (.aload_n 0, 1) := by decide +kernel
theorem dX5_gives_13 : decode cX5_gives 13 = .ok (.getfield 65, 3) := by decide +kernel
theorem dX5_gives_16 : decode cX5_gives 16 = .ok (.iload_n 3, 1) := by decide +kernel
theorem dX5_gives_17 : decode cX5_gives 17 = .ok (.caload, 1) := by decide +kernel
theorem dX5_gives_18 : decode cX5_gives 18 = .ok (.bipush 115, 2) := by decide +kernel
theorem dX5_gives_20 : decode cX5_gives 20 = .ok (.if_icmp .ne 34, 3) := by decide +kernel
theorem dX5_gives_23 : decode cX5_gives 23 = .ok (.iload_n 2, 1) := by decide +kernel
theorem dX5_gives_24 : decode cX5_gives 24 = .ok (.ifCond .lt 28, 3) := by decide +kernel
theorem dX5_gives_27 : decode cX5_gives 27 = .ok (.aload_n 0, 1) := by decide +kernel
theorem dX5_gives_28 : decode cX5_gives 28 = .ok (.iload_n 3, 1) := by decide +kernel
theorem dX5_gives_29 : decode cX5_gives 29 = .ok (.aload_n 0, 1) := by decide +kernel
theorem dX5_gives_30 : decode cX5_gives 30 = .ok (.getfield 37, 3) := by decide +kernel
theorem dX5_gives_33 : decode cX5_gives 33 = .ok (.iload_n 1, 1) := by decide +kernel
theorem dX5_gives_34 : decode cX5_gives 34 = .ok (.iaload, 1) := by decide +kernel
theorem dX5_gives_35 : decode cX5_gives 35 = .ok (.invokevirtual 106, 3) := by decide +kernel
theorem dX5_gives_38 : decode cX5_gives 38 = .ok (.aload_n 0, 1) := by decide +kernel
theorem dX5_gives_39 : decode cX5_gives 39 = .ok (.iload_n 2, 1) := by decide +kernel
theorem dX5_gives_40 : decode cX5_gives 40 = .ok (.aload_n 0, 1) := by decide +kernel
theorem dX5_gives_41 : decode cX5_gives 41 = .ok (.getfield 37, 3) := by decide +kernel
theorem dX5_gives_44 : decode cX5_gives 44 = .ok (.iload_n 1, 1) := by decide +kernel
theorem dX5_gives_45 : decode cX5_gives 45 = .ok (.iaload, 1) := by decide +kernel
theorem dX5_gives_46 : decode cX5_gives 46 = .ok (.invokevirtual 106, 3) := by decide +kernel
theorem dX5_gives_49 : decode cX5_gives 49 = .ok (.if_icmp .ge 5, 3) := by decide +kernel
theorem dX5_gives_52 : decode cX5_gives 52 = .ok (.iload_n 3, 1) := by decide +kernel
theorem dX5_gives_53 : decode cX5_gives 53 = .ok (.istore_n 2, 1) := by decide +kernel
theorem dX5_gives_54 : decode cX5_gives 54 = .ok (.iinc 3 1, 3) := by decide +kernel
theorem dX5_gives_57 : decode cX5_gives 57 = .ok (.goto (-53), 3) := by decide +kernel
theorem dX5_gives_60 : decode cX5_gives 60 = .ok (.aload_n 0, 1) := by decide +kernel
theorem dX5_gives_61 : decode cX5_gives 61 = .ok (.getfield 43, 3) := by decide +kernel
theorem dX5_gives_64 : decode cX5_gives 64 = .ok (.iload_n 1, 1) := by decide +kernel
theorem dX5_gives_65 : decode cX5_gives 65 = .ok (.iload_n 2, 1) := by decide +kernel
theorem dX5_gives_66 : decode cX5_gives 66 = .ok (.iastore, 1) := by decide +kernel
theorem dX5_gives_67 : decode cX5_gives 67 = .ok (.return_, 1) := by decide +kernel
theorem dX5_ends_0 : decode cX5_ends 0 = .ok (.aload_n 0, 1) := by decide +kernel
theorem dX5_ends_1 : decode cX5_ends 1 = .ok (.getfield 52, 3) := by decide +kernel
theorem dX5_ends_4 : decode cX5_ends 4 = .ok (.iload_n 1, 1) := by decide +kernel
theorem dX5_ends_5 : decode cX5_ends 5 = .ok (.caload, 1) := by decide +kernel
theorem dX5_ends_6 : decode cX5_ends 6 = .ok (.bipush 119, 2) := by decide +kernel
theorem dX5_ends_8 : decode cX5_ends 8 = .ok (.if_icmp .ne 13, 3) := by decide +kernel
theorem dX5_ends_11 : decode cX5_ends 11 = .ok (.aload_n 0, 1) := by decide +kernel
theorem dX5_ends_12 : decode cX5_ends 12 = .ok (.getfield 49, 3) := by decide +kernel
theorem dX5_ends_15 : decode cX5_ends 15 = .ok (.iload_n 1, 1) := by decide +kernel
theorem dX5_ends_16 : decode cX5_ends 16 = .ok (.aload_n 0, 1) := by decide +kernel
theorem dX5_ends_17 : decode cX5_ends 17 = .ok (.getfield 91, 3) := by decide +kernel
theorem dX5_ends_20 : decode cX5_ends 20 = .ok (.iastore, 1) := by decide +kernel
theorem dX5_ends_21 : decode cX5_ends 21 = .ok (.aload_n 0, 1) := by decide +kernel
theorem dX5_ends_22 : decode cX5_ends 22 = .ok (.getfield 52, 3) := by decide +kernel
theorem dX5_ends_25 : decode cX5_ends 25 = .ok (.iload_n 1, 1) := by decide +kernel
theorem dX5_ends_26 : decode cX5_ends 26 = .ok (.bipush 100, 2) := by decide +kernel
theorem dX5_ends_28 : decode cX5_ends 28 = .ok (.castore, 1) := by decide +kernel
theorem dX5_ends_29 : decode cX5_ends 29 = .ok (.aload_n 0, 1) := by decide +kernel
theorem dX5_ends_30 : decode cX5_ends 30 = .ok (.getfield 37, 3) := by decide +kernel
theorem dX5_ends_33 : decode cX5_ends 33 = .ok (.iload_n 1, 1) := by decide +kernel
theorem dX5_ends_34 : decode cX5_ends 34 = .ok (.iload_n 2, 1) := by decide +kernel
theorem dX5_ends_35 : decode cX5_ends 35 = .ok (.iastore, 1) := by decide +kernel
theorem dX5_ends_36 : decode cX5_ends 36 = .ok (.aload_n 0, 1) := by decide +kernel
theorem dX5_ends_37 : decode cX5_ends 37 = .ok (.getfield 43, 3) := by decide +kernel
theorem dX5_ends_40 : decode cX5_ends 40 = .ok (.iload_n 1, 1) := by decide +kernel
theorem dX5_ends_41 : decode cX5_ends 41 = .ok (.iconst (-1), 1) := by decide +kernel
theorem dX5_ends_42 : decode cX5_ends 42 = .ok (.iastore, 1) := by decide +kernel
theorem dX5_ends_43 : decode cX5_ends 43 = .ok (.aload_n 0, 1) := by decide +kernel
theorem dX5_ends_44 : decode cX5_ends 44 = .ok (.dup, 1) := by decide +kernel
theorem dX5_ends_45 : decode cX5_ends 45 = .ok (.getfield 110, 3) := by decide +kernel
theorem dX5_ends_48 : decode cX5_ends 48 = .ok (.iconst 1, 1) := by decide +kernel
theorem dX5_ends_49 : decode cX5_ends 49 = .ok (.iadd, 1) := by decide +kernel
theorem dX5_ends_50 : decode cX5_ends 50 = .ok (.putfield 110, 3) := by decide +kernel
theorem dX5_ends_53 : decode cX5_ends 53 = .ok (.aload_n 0, 1) := by decide +kernel
theorem dX5_ends_54 : decode cX5_ends 54 = .ok (.dup, 1) := by decide +kernel
theorem dX5_ends_55 : decode cX5_ends 55 = .ok (.getfield 113, 3) := by decide +kernel
theorem dX5_ends_58 : decode cX5_ends 58 = .ok (.iconst 1, 1) := by decide +kernel
theorem dX5_ends_59 : decode cX5_ends 59 = .ok (.iadd, 1) := by decide +kernel
theorem dX5_ends_60 : decode cX5_ends 60 = .ok (.putfield 113, 3) := by decide +kernel
theorem dX5_ends_63 : decode cX5_ends 63 = .ok (.return_, 1) := by decide +kernel
theorem dX5_isOut_0 : decode cX5_isOut 0 = .ok (.iconst 0, 1) := by decide +kernel
theorem dX5_isOut_1 : decode cX5_isOut 1 = .ok (.istore_n 2, 1) := by decide +kernel
theorem dX5_isOut_2 : decode cX5_isOut 2 = .ok (.iload_n 2, 1) := by decide +kernel
theorem dX5_isOut_3 : decode cX5_isOut 3 = .ok (.aload_n 0, 1) := by decide +kernel
theorem dX5_isOut_4 : decode cX5_isOut 4 = .ok (.getfield 74, 3) := by decide +kernel
theorem dX5_isOut_7 : decode cX5_isOut 7 = .ok (.if_icmp .ge 32, 3) := by decide +kernel
theorem dX5_isOut_10 : decode cX5_isOut 10 = .ok (.aload_n 0, 1) := by decide +kernel
theorem dX5_isOut_11 : decode cX5_isOut 11 = .ok (.getfield 34, 3) := by decide +kernel
theorem dX5_isOut_14 : decode cX5_isOut 14 = .ok (.iload_n 2, 1) := by decide +kernel
theorem dX5_isOut_15 : decode cX5_isOut 15 = .ok (.iaload, 1) := by decide +kernel
theorem dX5_isOut_16 : decode cX5_isOut 16 = .ok (.iload_n 1, 1) := by decide +kernel
theorem dX5_isOut_17 : decode cX5_isOut 17 = .ok (.if_icmp .ne 16, 3) := by decide +kernel
theorem dX5_isOut_20 : decode cX5_isOut 20 = .ok (.aload_n 0, 1) := by decide +kernel
theorem dX5_isOut_21 : decode cX5_isOut 21 = .ok (.getfield 52, 3) := by decide +kernel
theorem dX5_isOut_24 : decode cX5_isOut 24 = .ok (.iload_n 2, 1) := by decide +kernel
theorem dX5_isOut_25 : decode cX5_isOut 25 = .ok (.caload, 1) := by decide +kernel
theorem dX5_isOut_26 : decode cX5_isOut 26 = .ok (.bipush 100, 2) := by decide +kernel
theorem dX5_isOut_28 : decode cX5_isOut 28 = .ok (.if_icmp .eq 5, 3) := by decide +kernel
theorem dX5_isOut_31 : decode cX5_isOut 31 = .ok (.iconst 1, 1) := by decide +kernel
theorem dX5_isOut_32 : decode cX5_isOut 32 = .ok (.ireturn, 1) := by decide +kernel
theorem dX5_isOut_33 : decode cX5_isOut 33 = .ok (.iinc 2 1, 3) := by decide +kernel
theorem dX5_isOut_36 : decode cX5_isOut 36 = .ok (.goto (-34), 3) := by decide +kernel
theorem dX5_isOut_39 : decode cX5_isOut 39 = .ok (.iconst 0, 1) := by decide +kernel
theorem dX5_isOut_40 : decode cX5_isOut 40 = .ok (.ireturn, 1) := by decide +kernel
theorem dX5_call_0 : decode cX5_call 0 = .ok (.aload_n 0, 1) := by decide +kernel
theorem dX5_call_1 : decode cX5_call 1 = .ok (.iconst 0, 1) := by decide +kernel
theorem dX5_call_2 : decode cX5_call 2 = .ok (.putfield 1, 3) := by decide +kernel
theorem dX5_call_5 : decode cX5_call 5 = .ok (.aload_n 0, 1) := by decide +kernel
theorem dX5_call_6 : decode cX5_call 6 = .ok (.iload_n 1, 1) := by decide +kernel
theorem dX5_call_7 : decode cX5_call 7 = .ok (.invokevirtual 84, 3) := by decide +kernel
theorem dX5_call_10 : decode cX5_call 10 = .ok (.ifCond .eq 17, 3) := by decide +kernel
theorem dX5_call_13 : decode cX5_call 13 = .ok (.iload_n 2, 1) := by decide +kernel
theorem dX5_call_14 : decode cX5_call 14 = .ok (.invokestatic 94, 3) := by decide +kernel
theorem dX5_call_17 : decode cX5_call 17 = .ok (.ifCond .eq 10, 3) := by decide +kernel
theorem dX5_call_20 : decode cX5_call 20 = .ok (.iload_n 3, 1) := by decide +kernel
theorem dX5_call_21 : decode cX5_call 21 = .ok (.invokestatic 94, 3) := by decide +kernel
theorem dX5_call_24 : decode cX5_call 24 = .ok (.ifCond .ne 9, 3) := by decide +kernel
theorem dX5_call_27 : decode cX5_call 27 = .ok (.aload_n 0, 1) := by decide +kernel
theorem dX5_call_28 : decode cX5_call 28 = .ok (.iconst 1, 1) := by decide +kernel
theorem dX5_call_29 : decode cX5_call 29 = .ok (.invokevirtual 80, 3) := by decide +kernel
theorem dX5_call_32 : decode cX5_call 32 = .ok (.ireturn, 1) := by decide +kernel
theorem dX5_call_33 : decode cX5_call 33 = .ok (.iload_n 2, 1) := by decide +kernel
theorem dX5_call_34 : decode cX5_call 34 = .ok (.iload_n 3, 1) := by decide +kernel
theorem dX5_call_35 : decode cX5_call 35 = .ok (.if_icmp .ne 9, 3) := by decide +kernel
theorem dX5_call_38 : decode cX5_call 38 = .ok (.aload_n 0, 1) := by decide +kernel
theorem dX5_call_39 : decode cX5_call 39 = .ok (.iconst 2, 1) := by decide +kernel
theorem dX5_call_40 : decode cX5_call 40 = .ok (.invokevirtual 80, 3) := by decide +kernel
theorem dX5_call_43 : decode cX5_call 43 = .ok (.ireturn, 1) := by decide +kernel
theorem dX5_call_44 : decode cX5_call 44 = .ok (.aload_n 0, 1) := by decide +kernel
theorem dX5_call_45 : decode cX5_call 45 = .ok (.iload_n 1, 1) := by decide +kernel
theorem dX5_call_46 : decode cX5_call 46 = .ok (.iload_n 3, 1) := by decide +kernel
theorem dX5_call_47 : decode cX5_call 47 = .ok (.invokevirtual 97, 3) := by decide +kernel
theorem dX5_call_50 : decode cX5_call 50 = .ok (.bipush 110, 2) := by decide +kernel
theorem dX5_call_52 : decode cX5_call 52 = .ok (.if_icmp .eq 9, 3) := by decide +kernel
theorem dX5_call_55 : decode cX5_call 55 = .ok (.aload_n 0, 1) := by decide +kernel
theorem dX5_call_56 : decode cX5_call 56 = .ok (.iconst 3, 1) := by decide +kernel
theorem dX5_call_57 : decode cX5_call 57 = .ok (.invokevirtual 80, 3) := by decide +kernel
theorem dX5_call_60 : decode cX5_call 60 = .ok (.ireturn, 1) := by decide +kernel
theorem dX5_call_61 : decode cX5_call 61 = .ok (.aload_n 0, 1) := by decide +kernel
theorem dX5_call_62 : decode cX5_call 62 = .ok (.iload_n 1, 1) := by decide +kernel
theorem dX5_call_63 : decode cX5_call 63 = .ok (.invokevirtual 116, 3) := by decide +kernel
theorem dX5_call_66 : decode cX5_call 66 = .ok (.ifCond .ne 19, 3) := by decide +kernel
theorem dX5_call_69 : decode cX5_call 69 = .ok (.aload_n 0, 1) := by decide +kernel
theorem dX5_call_70 : decode cX5_call 70 = .ok (.getfield 119, 3) := by decide +kernel
theorem dX5_call_73 : decode cX5_call 73 = .ok (.ifCond .ne 12, 3) := by decide +kernel
theorem dX5_call_76 : decode cX5_call 76 = .ok (.aload_n 0, 1) := by decide +kernel
theorem dX5_call_77 : decode cX5_call 77 = .ok (.getfield 74, 3) := by decide +kernel
theorem dX5_call_80 : decode cX5_call 80 = .ok (.bipush 30, 2) := by decide +kernel
theorem dX5_call_82 : decode cX5_call 82 = .ok (.if_icmp .ne 9, 3) := by decide +kernel
theorem dX5_call_85 : decode cX5_call 85 = .ok (.aload_n 0, 1) := by decide +kernel
theorem dX5_call_86 : decode cX5_call 86 = .ok (.iconst 4, 1) := by decide +kernel
theorem dX5_call_87 : decode cX5_call 87 = .ok (.invokevirtual 80, 3) := by decide +kernel
theorem dX5_call_90 : decode cX5_call 90 = .ok (.ireturn, 1) := by decide +kernel
theorem dX5_call_91 : decode cX5_call 91 = .ok (.aload_n 0, 1) := by decide +kernel
theorem dX5_call_92 : decode cX5_call 92 = .ok (.getfield 74, 3) := by decide +kernel
theorem dX5_call_95 : decode cX5_call 95 = .ok (.istore 4, 2) := by decide +kernel
theorem dX5_call_97 : decode cX5_call 97 = .ok (.aload_n 0, 1) := by decide +kernel
theorem dX5_call_98 : decode cX5_call 98 = .ok (.getfield 34, 3) := by decide +kernel
theorem dX5_call_101 : decode cX5_call 101 = .ok (.iload 4, 2) := by decide +kernel
theorem dX5_call_103 : decode cX5_call 103 = .ok (.iload_n 1, 1) := by decide +kernel
theorem dX5_call_104 : decode cX5_call 104 = .ok (.iastore, 1) := by decide +kernel
theorem dX5_call_105 : decode cX5_call 105 = .ok (.aload_n 0, 1) := by decide +kernel
theorem dX5_call_106 : decode cX5_call 106 = .ok (.getfield 52, 3) := by decide +kernel
theorem dX5_call_109 : decode cX5_call 109 = .ok (.iload 4, 2) := by decide +kernel
theorem dX5_call_111 : decode cX5_call 111 = .ok (.bipush 119, 2) := by decide +kernel
theorem dX5_call_113 : decode cX5_call 113 = .ok (.castore, 1) := by decide +kernel
theorem dX5_call_114 : decode cX5_call 114 = .ok (.aload_n 0, 1) := by decide +kernel
theorem dX5_call_115 : decode cX5_call 115 = .ok (.getfield 37, 3) := by decide +kernel
theorem dX5_call_118 : decode cX5_call 118 = .ok (.iload 4, 2) := by decide +kernel
theorem dX5_call_120 : decode cX5_call 120 = .ok (.iload_n 2, 1) := by decide +kernel
theorem dX5_call_121 : decode cX5_call 121 = .ok (.iastore, 1) := by decide +kernel
theorem dX5_call_122 : decode cX5_call 122 = .ok (.aload_n 0, 1) := by decide +kernel
theorem dX5_call_123 : decode cX5_call 123 = .ok (.getfield 40, 3) := by decide +kernel
theorem dX5_call_126 : decode cX5_call 126 = .ok (.iload 4, 2) := by decide +kernel
theorem dX5_call_128 : decode cX5_call 128 = .ok (.iload_n 3, 1) := by decide +kernel
theorem dX5_call_129 : decode cX5_call 129 = .ok (.iastore, 1) := by decide +kernel
theorem dX5_call_130 : decode cX5_call 130 = .ok (.aload_n 0, 1) := by decide +kernel
theorem dX5_call_131 : decode cX5_call 131 = .ok (.getfield 43, 3) := by decide +kernel
theorem dX5_call_134 : decode cX5_call 134 = .ok (.iload 4, 2) := by decide +kernel
theorem dX5_call_136 : decode cX5_call 136 = .ok (.iconst (-1), 1) := by decide +kernel
theorem dX5_call_137 : decode cX5_call 137 = .ok (.iastore, 1) := by decide +kernel
theorem dX5_call_138 : decode cX5_call 138 = .ok (.aload_n 0, 1) := by decide +kernel
theorem dX5_call_139 : decode cX5_call 139 = .ok (.getfield 46, 3) := by decide +kernel
theorem dX5_call_142 : decode cX5_call 142 = .ok (.iload 4, 2) := by decide +kernel
theorem dX5_call_144 : decode cX5_call 144 = .ok (.aload_n 0, 1) := by decide +kernel
theorem dX5_call_145 : decode cX5_call 145 = .ok (.getfield 91, 3) := by decide +kernel
theorem dX5_call_148 : decode cX5_call 148 = .ok (.iastore, 1) := by decide +kernel
theorem dX5_call_149 : decode cX5_call 149 = .ok (.aload_n 0, 1) := by decide +kernel
theorem dX5_call_150 : decode cX5_call 150 = .ok (.dup, 1) := by decide +kernel
theorem dX5_call_151 : decode cX5_call 151 = .ok (.getfield 74, 3) := by decide +kernel
theorem dX5_call_154 : decode cX5_call 154 = .ok (.iconst 1, 1) := by decide +kernel
theorem dX5_call_155 : decode cX5_call 155 = .ok (.iadd, 1) := by decide +kernel
theorem dX5_call_156 : decode cX5_call 156 = .ok (.putfield 74, 3) := by decide +kernel
theorem dX5_call_159 : decode cX5_call 159 = .ok (.aload_n 0, 1) := by decide +kernel
theorem dX5_call_160 : decode cX5_call 160 = .ok (.dup, 1) := by decide +kernel
theorem dX5_call_161 : decode cX5_call 161 = .ok (.getfield 110, 3) := by decide +kernel
theorem dX5_call_164 : decode cX5_call 164 = .ok (.iconst 1, 1) := by decide +kernel
theorem dX5_call_165 : decode cX5_call 165 = .ok (.iadd, 1) := by decide +kernel
theorem dX5_call_166 : decode cX5_call 166 = .ok (.putfield 110, 3) := by decide +kernel
theorem dX5_call_169 : decode cX5_call 169 = .ok (.aload_n 0, 1) := by decide +kernel
theorem dX5_call_170 : decode cX5_call 170 = .ok (.iload 4, 2) := by decide +kernel
theorem dX5_call_172 : decode cX5_call 172 = .ok (.invokevirtual 123, 3) := by decide +kernel
theorem dX5_call_175 : decode cX5_call 175 = .ok (.iload 4, 2) := by decide +kernel
theorem dX5_call_177 : decode cX5_call 177 = .ok (.ireturn, 1) := by decide +kernel
theorem dX5_isNobody_0 : decode cX5_isNobody 0 = .ok (.aload_n 0, 1) := by decide +kernel
theorem dX5_isNobody_1 : decode cX5_isNobody 1 = .ok (.aload_n 0, 1) := by decide +kernel
theorem dX5_isNobody_2 : decode cX5_isNobody 2 = .ok (.iload_n 1, 1) := by decide +kernel
theorem dX5_isNobody_3 : decode cX5_isNobody 3 = .ok (.invokevirtual 127, 3) := by decide +kernel
theorem dX5_isNobody_6 : decode cX5_isNobody 6 = .ok (.ifCond .eq 7, 3) := by decide +kernel
theorem dX5_isNobody_9 : decode cX5_isNobody 9 = .ok (.iconst 0, 1) := by decide +kernel
theorem dX5_isNobody_10 : decode cX5_isNobody 10 = .ok (.goto 4, 3) := by decide +kernel
theorem dX5_isNobody_13 : decode cX5_isNobody 13 = .ok (.iconst 1, 1) := by decide +kernel
theorem dX5_isNobody_14 : decode cX5_isNobody 14 = .ok (.putfield 1, 3) := by decide +kernel
theorem dX5_isNobody_17 : decode cX5_isNobody 17 = .ok (.aload_n 0, 1) := by decide +kernel
theorem dX5_isNobody_18 : decode cX5_isNobody 18 = .ok (.getfield 1, 3) := by decide +kernel
theorem dX5_isNobody_21 : decode cX5_isNobody 21 = .ok (.ifCond .le 7, 3) := by decide +kernel
theorem dX5_isNobody_24 : decode cX5_isNobody 24 = .ok (.iconst 1, 1) := by decide +kernel
theorem dX5_isNobody_25 : decode cX5_isNobody 25 = .ok (.goto 4, 3) := by decide +kernel
theorem dX5_isNobody_28 : decode cX5_isNobody 28 = .ok (.iconst 0, 1) := by decide +kernel
theorem dX5_isNobody_29 : decode cX5_isNobody 29 = .ok (.ireturn, 1) := by decide +kernel
theorem dX5_state_0 : decode cX5_state 0 = .ok (.aload_n 0, 1) := by decide +kernel
theorem dX5_state_1 : decode cX5_state 1 = .ok (.iload_n 1, 1) := by decide +kernel
theorem dX5_state_2 : decode cX5_state 2 = .ok (.invokevirtual 130, 3) := by decide +kernel
theorem dX5_state_5 : decode cX5_state 5 = .ok (.ifCond .eq 7, 3) := by decide +kernel
theorem dX5_state_8 : decode cX5_state 8 = .ok (.iconst 0, 1) := by decide +kernel
theorem dX5_state_9 : decode cX5_state 9 = .ok (.goto 9, 3) := by decide +kernel
theorem dX5_state_12 : decode cX5_state 12 = .ok (.aload_n 0, 1) := by decide +kernel
theorem dX5_state_13 : decode cX5_state 13 = .ok (.getfield 52, 3) := by decide +kernel
theorem dX5_state_16 : decode cX5_state 16 = .ok (.iload_n 1, 1) := by decide +kernel
theorem dX5_state_17 : decode cX5_state 17 = .ok (.caload, 1) := by decide +kernel
theorem dX5_state_18 : decode cX5_state 18 = .ok (.ireturn, 1) := by decide +kernel
theorem dX5_floorOf_0 : decode cX5_floorOf 0 = .ok (.aload_n 0, 1) := by decide +kernel
theorem dX5_floorOf_1 : decode cX5_floorOf 1 = .ok (.iload_n 1, 1) := by decide +kernel
theorem dX5_floorOf_2 : decode cX5_floorOf 2 = .ok (.invokevirtual 130, 3) := by decide +kernel
theorem dX5_floorOf_5 : decode cX5_floorOf 5 = .ok (.ifCond .eq 5, 3) := by decide +kernel
theorem dX5_floorOf_8 : decode cX5_floorOf 8 = .ok (.iconst 0, 1) := by decide +kernel
theorem dX5_floorOf_9 : decode cX5_floorOf 9 = .ok (.ireturn, 1) := by decide +kernel
theorem dX5_floorOf_10 : decode cX5_floorOf 10 = .ok (.aload_n 0, 1) := by decide +kernel
theorem dX5_floorOf_11 : decode cX5_floorOf 11 = .ok (.getfield 52, 3) := by decide +kernel
theorem dX5_floorOf_14 : decode cX5_floorOf 14 = .ok (.iload_n 1, 1) := by decide +kernel
theorem dX5_floorOf_15 : decode cX5_floorOf 15 = .ok (.caload, 1) := by decide +kernel
theorem dX5_floorOf_16 : decode cX5_floorOf 16 = .ok (.bipush 97, 2) := by decide +kernel
theorem dX5_floorOf_18 : decode cX5_floorOf 18 = .ok (.if_icmp .ne 17, 3) := by decide +kernel
theorem dX5_floorOf_21 : decode cX5_floorOf 21 = .ok (.aload_n 0, 1) := by decide +kernel
theorem dX5_floorOf_22 : decode cX5_floorOf 22 = .ok (.getfield 59, 3) := by decide +kernel
theorem dX5_floorOf_25 : decode cX5_floorOf 25 = .ok (.aload_n 0, 1) := by decide +kernel
theorem dX5_floorOf_26 : decode cX5_floorOf 26 = .ok (.getfield 43, 3) := by decide +kernel
theorem dX5_floorOf_29 : decode cX5_floorOf 29 = .ok (.iload_n 1, 1) := by decide +kernel
theorem dX5_floorOf_30 : decode cX5_floorOf 30 = .ok (.iaload, 1) := by decide +kernel
theorem dX5_floorOf_31 : decode cX5_floorOf 31 = .ok (.iaload, 1) := by decide +kernel
theorem dX5_floorOf_32 : decode cX5_floorOf 32 = .ok (.goto 9, 3) := by decide +kernel
theorem dX5_floorOf_35 : decode cX5_floorOf 35 = .ok (.aload_n 0, 1) := by decide +kernel
theorem dX5_floorOf_36 : decode cX5_floorOf 36 = .ok (.getfield 37, 3) := by decide +kernel
theorem dX5_floorOf_39 : decode cX5_floorOf 39 = .ok (.iload_n 1, 1) := by decide +kernel
theorem dX5_floorOf_40 : decode cX5_floorOf 40 = .ok (.iaload, 1) := by decide +kernel
theorem dX5_floorOf_41 : decode cX5_floorOf 41 = .ok (.ireturn, 1) := by decide +kernel
theorem dX5_aim_0 : decode cX5_aim 0 = .ok (.aload_n 0, 1) := by decide +kernel
theorem dX5_aim_1 : decode cX5_aim 1 = .ok (.iload_n 1, 1) := by decide +kernel
theorem dX5_aim_2 : decode cX5_aim 2 = .ok (.invokevirtual 130, 3) := by decide +kernel
theorem dX5_aim_5 : decode cX5_aim 5 = .ok (.ifCond .eq 7, 3) := by decide +kernel
theorem dX5_aim_8 : decode cX5_aim 8 = .ok (.iconst 0, 1) := by decide +kernel
theorem dX5_aim_9 : decode cX5_aim 9 = .ok (.goto 9, 3) := by decide +kernel
theorem dX5_aim_12 : decode cX5_aim 12 = .ok (.aload_n 0, 1) := by decide +kernel
theorem dX5_aim_13 : decode cX5_aim 13 = .ok (.getfield 40, 3) := by decide +kernel
theorem dX5_aim_16 : decode cX5_aim 16 = .ok (.iload_n 1, 1) := by decide +kernel
theorem dX5_aim_17 : decode cX5_aim 17 = .ok (.iaload, 1) := by decide +kernel
theorem dX5_aim_18 : decode cX5_aim 18 = .ok (.ireturn, 1) := by decide +kernel
theorem dX5_liftOf_0 : decode cX5_liftOf 0 = .ok (.aload_n 0, 1) := by decide +kernel
theorem dX5_liftOf_1 : decode cX5_liftOf 1 = .ok (.iload_n 1, 1) := by decide +kernel
theorem dX5_liftOf_2 : decode cX5_liftOf 2 = .ok (.invokevirtual 130, 3) := by decide +kernel
theorem dX5_liftOf_5 : decode cX5_liftOf 5 = .ok (.ifCond .eq 5, 3) := by decide +kernel
theorem dX5_liftOf_8 : decode cX5_liftOf 8 = .ok (.iconst 0, 1) := by decide +kernel
theorem dX5_liftOf_9 : decode cX5_liftOf 9 = .ok (.ireturn, 1) := by decide +kernel
theorem dX5_liftOf_10 : decode cX5_liftOf 10 = .ok (.aload_n 0, 1) := by decide +kernel
theorem dX5_liftOf_11 : decode cX5_liftOf 11 = .ok (.getfield 43, 3) := by decide +kernel
theorem dX5_liftOf_14 : decode cX5_liftOf 14 = .ok (.iload_n 1, 1) := by decide +kernel
theorem dX5_liftOf_15 : decode cX5_liftOf 15 = .ok (.iaload, 1) := by decide +kernel
theorem dX5_liftOf_16 : decode cX5_liftOf 16 = .ok (.ifCond .ge 11, 3) := by decide +kernel
theorem dX5_liftOf_19 : decode cX5_liftOf 19 = .ok (.aload_n 0, 1) := by decide +kernel
theorem dX5_liftOf_20 : decode cX5_liftOf 20 = .ok (.iconst 2, 1) := by decide +kernel
theorem dX5_liftOf_21 : decode cX5_liftOf 21 = .ok (.invokevirtual 80, 3) := by decide +kernel
theorem dX5_liftOf_24 : decode cX5_liftOf 24 = .ok (.goto 9, 3) := by decide +kernel
theorem dX5_liftOf_27 : decode cX5_liftOf 27 = .ok (.aload_n 0, 1) := by decide +kernel
theorem dX5_liftOf_28 : decode cX5_liftOf 28 = .ok (.getfield 43, 3) := by decide +kernel
theorem dX5_liftOf_31 : decode cX5_liftOf 31 = .ok (.iload_n 1, 1) := by decide +kernel
theorem dX5_liftOf_32 : decode cX5_liftOf 32 = .ok (.iaload, 1) := by decide +kernel
theorem dX5_liftOf_33 : decode cX5_liftOf 33 = .ok (.ireturn, 1) := by decide +kernel
theorem dX5_waitedBy_0 : decode cX5_waitedBy 0 = .ok (.aload_n 0, 1) := by decide +kernel
theorem dX5_waitedBy_1 : decode cX5_waitedBy 1 = .ok (.getfield 52, 3) := by decide +kernel
theorem dX5_waitedBy_4 : decode cX5_waitedBy 4 = .ok (.iload_n 1, 1) := by decide +kernel
theorem dX5_waitedBy_5 : decode cX5_waitedBy 5 = .ok (.caload, 1) := by decide +kernel
theorem dX5_waitedBy_6 : decode cX5_waitedBy 6 = .ok (.bipush 119, 2) := by decide +kernel
theorem dX5_waitedBy_8 : decode cX5_waitedBy 8 = .ok (.if_icmp .ne 10, 3) := by decide +kernel
theorem dX5_waitedBy_11 : decode cX5_waitedBy 11 = .ok (.aload_n 0, 1) := by decide +kernel
theorem dX5_waitedBy_12 : decode cX5_waitedBy 12 = .ok (.getfield 91, 3) := by decide +kernel
theorem dX5_waitedBy_15 : decode cX5_waitedBy 15 = .ok (.goto 9, 3) := by decide +kernel
theorem dX5_waitedBy_18 : decode cX5_waitedBy 18 = .ok (.aload_n 0, 1) := by decide +kernel
theorem dX5_waitedBy_19 : decode cX5_waitedBy 19 = .ok (.getfield 49, 3) := by decide +kernel
theorem dX5_waitedBy_22 : decode cX5_waitedBy 22 = .ok (.iload_n 1, 1) := by decide +kernel
theorem dX5_waitedBy_23 : decode cX5_waitedBy 23 = .ok (.iaload, 1) := by decide +kernel
theorem dX5_waitedBy_24 : decode cX5_waitedBy 24 = .ok (.aload_n 0, 1) := by decide +kernel
theorem dX5_waitedBy_25 : decode cX5_waitedBy 25 = .ok (.getfield 46, 3) := by decide +kernel
theorem dX5_waitedBy_28 : decode cX5_waitedBy 28 = .ok (.iload_n 1, 1) := by decide +kernel
theorem dX5_waitedBy_29 : decode cX5_waitedBy 29 = .ok (.iaload, 1) := by decide +kernel
theorem dX5_waitedBy_30 : decode cX5_waitedBy 30 = .ok (.isub, 1) := by decide +kernel
theorem dX5_waitedBy_31 : decode cX5_waitedBy 31 = .ok (.ireturn, 1) := by decide +kernel
theorem dX5_waited_0 : decode cX5_waited 0 = .ok (.aload_n 0, 1) := by decide +kernel
theorem dX5_waited_1 : decode cX5_waited 1 = .ok (.iload_n 1, 1) := by decide +kernel
theorem dX5_waited_2 : decode cX5_waited 2 = .ok (.invokevirtual 130, 3) := by decide +kernel
theorem dX5_waited_5 : decode cX5_waited 5 = .ok (.ifCond .eq 7, 3) := by decide +kernel
theorem dX5_waited_8 : decode cX5_waited 8 = .ok (.iconst 0, 1) := by decide +kernel
theorem dX5_waited_9 : decode cX5_waited 9 = .ok (.goto 8, 3) := by decide +kernel
theorem dX5_waited_12 : decode cX5_waited 12 = .ok (.aload_n 0, 1) := by decide +kernel
theorem dX5_waited_13 : decode cX5_waited 13 = .ok (.iload_n 1, 1) := by decide +kernel
theorem dX5_waited_14 : decode cX5_waited 14 = .ok (.invokevirtual 133, 3) := by decide +kernel
theorem dX5_waited_17 : decode cX5_waited 17 = .ok (.ireturn, 1) := by decide +kernel
theorem dX5_waitedByLog_0 : decode cX5_waitedByLog 0 = .ok (.aload_n 0, 1) := by decide +kernel
theorem dX5_waitedByLog_1 : decode cX5_waitedByLog 1 = .ok (.iload_n 1, 1) := by decide +kernel
theorem dX5_waitedByLog_2 : decode cX5_waitedByLog 2 = .ok (.invokevirtual 136, 3) := by decide +kernel
theorem dX5_waitedByLog_5 : decode cX5_waitedByLog 5 = .ok (.ireturn, 1) := by decide +kernel
theorem dX5_entries_0 : decode cX5_entries 0 = .ok (.aload_n 0, 1) := by decide +kernel
theorem dX5_entries_1 : decode cX5_entries 1 = .ok (.iconst 0, 1) := by decide +kernel
theorem dX5_entries_2 : decode cX5_entries 2 = .ok (.putfield 1, 3) := by decide +kernel
theorem dX5_entries_5 : decode cX5_entries 5 = .ok (.aload_n 0, 1) := by decide +kernel
theorem dX5_entries_6 : decode cX5_entries 6 = .ok (.getfield 110, 3) := by decide +kernel
theorem dX5_entries_9 : decode cX5_entries 9 = .ok (.ireturn, 1) := by decide +kernel
theorem dX5_frees_0 : decode cX5_frees 0 = .ok (.iconst 0, 1) := by decide +kernel
theorem dX5_frees_1 : decode cX5_frees 1 = .ok (.istore_n 2, 1) := by decide +kernel
theorem dX5_frees_2 : decode cX5_frees 2 = .ok (.iconst 0, 1) := by decide +kernel
theorem dX5_frees_3 : decode cX5_frees 3 = .ok (.istore_n 3, 1) := by decide +kernel
theorem dX5_frees_4 : decode cX5_frees 4 = .ok (.iload_n 3, 1) := by decide +kernel
theorem dX5_frees_5 : decode cX5_frees 5 = .ok (.aload_n 0, 1) := by decide +kernel
theorem dX5_frees_6 : decode cX5_frees 6 = .ok (.getfield 74, 3) := by decide +kernel
theorem dX5_frees_9 : decode cX5_frees 9 = .ok (.if_icmp .ge 56, 3) := by decide +kernel
theorem dX5_frees_12 : decode cX5_frees 12 = .ok (.aload_n 0, 1) := by decide +kernel
theorem dX5_frees_13 : decode cX5_frees 13 = .ok (.getfield 52, 3) := by decide +kernel
theorem dX5_frees_16 : decode cX5_frees 16 = .ok (.iload_n 3, 1) := by decide +kernel
theorem dX5_frees_17 : decode cX5_frees 17 = .ok (.caload, 1) := by decide +kernel
theorem dX5_frees_18 : decode cX5_frees 18 = .ok (.bipush 119, 2) := by decide +kernel
theorem dX5_frees_20 : decode cX5_frees 20 = .ok (.if_icmp .ne 39, 3) := by decide +kernel
theorem dX5_frees_23 : decode cX5_frees 23 = .ok (.aload_n 0, 1) := by decide +kernel
theorem dX5_frees_24 : decode cX5_frees 24 = .ok (.getfield 43, 3) := by decide +kernel
theorem dX5_frees_27 : decode cX5_frees 27 = .ok (.iload_n 3, 1) := by decide +kernel
theorem dX5_frees_28 : decode cX5_frees 28 = .ok (.iaload, 1) := by decide +kernel
theorem dX5_frees_29 : decode cX5_frees 29 = .ok (.ifCond .lt 30, 3) := by decide +kernel
theorem dX5_frees_32 : decode cX5_frees 32 = .ok (.iload_n 1, 1) := by decide +kernel
theorem dX5_frees_33 : decode cX5_frees 33 = .ok (.ifCond .lt 16, 3) := by decide +kernel
theorem dX5_frees_36 : decode cX5_frees 36 = .ok (.aload_n 0, 1) := by decide +kernel
theorem dX5_frees_37 : decode cX5_frees 37 = .ok (.getfield 43, 3) := by decide +kernel
theorem dX5_frees_40 : decode cX5_frees 40 = .ok (.iload_n 3, 1) := by decide +kernel
theorem dX5_frees_41 : decode cX5_frees 41 = .ok (.iaload, 1) := by decide +kernel
theorem dX5_frees_42 : decode cX5_frees 42 = .ok (.iload_n 1, 1) := by decide +kernel
theorem dX5_frees_43 : decode cX5_frees 43 = .ok (.if_icmp .eq 6, 3) := by decide +kernel
theorem dX5_frees_46 : decode cX5_frees 46 = .ok (.goto 13, 3) := by decide +kernel
theorem dX5_frees_49 : decode cX5_frees 49 = .ok (.aload_n 0, 1) := by decide +kernel
theorem dX5_frees_50 : decode cX5_frees 50 = .ok (.getfield 43, 3) := by decide +kernel
theorem dX5_frees_53 : decode cX5_frees 53 = .ok (.iload_n 3, 1) := by decide +kernel
theorem dX5_frees_54 : decode cX5_frees 54 = .ok (.iconst (-1), 1) := by decide +kernel
theorem dX5_frees_55 : decode cX5_frees 55 = .ok (.iastore, 1) := by decide +kernel
theorem dX5_frees_56 : decode cX5_frees 56 = .ok (.iinc 2 1, 3) := by decide +kernel
theorem dX5_frees_59 : decode cX5_frees 59 = .ok (.iinc 3 1, 3) := by decide +kernel
theorem dX5_frees_62 : decode cX5_frees 62 = .ok (.goto (-58), 3) := by decide +kernel
theorem dX5_frees_65 : decode cX5_frees 65 = .ok (.iload_n 2, 1) := by decide +kernel
theorem dX5_frees_66 : decode cX5_frees 66 = .ok (.ireturn, 1) := by decide +kernel
theorem dX5_callOff_0 : decode cX5_callOff 0 = .ok (.aload_n 0, 1) := by decide +kernel
theorem dX5_callOff_1 : decode cX5_callOff 1 = .ok (.iconst 0, 1) := by decide +kernel
theorem dX5_callOff_2 : decode cX5_callOff 2 = .ok (.putfield 1, 3) := by decide +kernel
theorem dX5_callOff_5 : decode cX5_callOff 5 = .ok (.aload_n 0, 1) := by decide +kernel
theorem dX5_callOff_6 : decode cX5_callOff 6 = .ok (.iload_n 1, 1) := by decide +kernel
theorem dX5_callOff_7 : decode cX5_callOff 7 = .ok (.invokevirtual 139, 3) := by decide +kernel
theorem dX5_callOff_10 : decode cX5_callOff 10 = .ok (.ifCond .ne 9, 3) := by decide +kernel
theorem dX5_callOff_13 : decode cX5_callOff 13 = .ok (.aload_n 0, 1) := by decide +kernel
theorem dX5_callOff_14 : decode cX5_callOff 14 = .ok (.iconst 1, 1) := by decide +kernel
theorem dX5_callOff_15 : decode cX5_callOff 15 = .ok (.invokevirtual 80, 3) := by decide +kernel
theorem dX5_callOff_18 : decode cX5_callOff 18 = .ok (.ireturn, 1) := by decide +kernel
theorem dX5_callOff_19 : decode cX5_callOff 19 = .ok (.aload_n 0, 1) := by decide +kernel
theorem dX5_callOff_20 : decode cX5_callOff 20 = .ok (.getfield 65, 3) := by decide +kernel
theorem dX5_callOff_23 : decode cX5_callOff 23 = .ok (.iload_n 1, 1) := by decide +kernel
theorem dX5_callOff_24 : decode cX5_callOff 24 = .ok (.caload, 1) := by decide +kernel
theorem dX5_callOff_25 : decode cX5_callOff 25 = .ok (.bipush 115, 2) := by decide +kernel
theorem dX5_callOff_27 : decode cX5_callOff 27 = .ok (.if_icmp .ne 10, 3) := by decide +kernel
theorem dX5_callOff_30 : decode cX5_callOff 30 = .ok (.aload_n 0, 1) := by decide +kernel
theorem dX5_callOff_31 : decode cX5_callOff 31 = .ok (.getfield 119, 3) := by decide +kernel
theorem dX5_callOff_34 : decode cX5_callOff 34 = .ok (.ifCond .eq 9, 3) := by decide +kernel
theorem dX5_callOff_37 : decode cX5_callOff 37 = .ok (.aload_n 0, 1) := by decide +kernel
theorem dX5_callOff_38 : decode cX5_callOff 38 = .ok (.iconst 2, 1) := by decide +kernel
theorem dX5_callOff_39 : decode cX5_callOff 39 = .ok (.invokevirtual 80, 3) := by decide +kernel
theorem dX5_callOff_42 : decode cX5_callOff 42 = .ok (.ireturn, 1) := by decide +kernel
theorem dX5_callOff_43 : decode cX5_callOff 43 = .ok (.aload_n 0, 1) := by decide +kernel
theorem dX5_callOff_44 : decode cX5_callOff 44 = .ok (.getfield 65, 3) := by decide +kernel
theorem dX5_callOff_47 : decode cX5_callOff 47 = .ok (.iload_n 1, 1) := by decide +kernel
theorem dX5_callOff_48 : decode cX5_callOff 48 = .ok (.bipush 111, 2) := by decide +kernel
theorem dX5_callOff_50 : decode cX5_callOff 50 = .ok (.castore, 1) := by decide +kernel
theorem dX5_callOff_51 : decode cX5_callOff 51 = .ok (.aload_n 0, 1) := by decide +kernel
theorem dX5_callOff_52 : decode cX5_callOff 52 = .ok (.iload_n 1, 1) := by decide +kernel
theorem dX5_callOff_53 : decode cX5_callOff 53 = .ok (.invokevirtual 142, 3) := by decide +kernel
theorem dX5_callOff_56 : decode cX5_callOff 56 = .ok (.ireturn, 1) := by decide +kernel
theorem dX5_isNoLift_0 : decode cX5_isNoLift 0 = .ok (.aload_n 0, 1) := by decide +kernel
theorem dX5_isNoLift_1 : decode cX5_isNoLift 1 = .ok (.aload_n 0, 1) := by decide +kernel
theorem dX5_isNoLift_2 : decode cX5_isNoLift 2 = .ok (.iload_n 1, 1) := by decide +kernel
theorem dX5_isNoLift_3 : decode cX5_isNoLift 3 = .ok (.invokevirtual 139, 3) := by decide +kernel
theorem dX5_isNoLift_6 : decode cX5_isNoLift 6 = .ok (.ifCond .eq 7, 3) := by decide +kernel
theorem dX5_isNoLift_9 : decode cX5_isNoLift 9 = .ok (.iconst 0, 1) := by decide +kernel
theorem dX5_isNoLift_10 : decode cX5_isNoLift 10 = .ok (.goto 4, 3) := by decide +kernel
theorem dX5_isNoLift_13 : decode cX5_isNoLift 13 = .ok (.iconst 1, 1) := by decide +kernel
theorem dX5_isNoLift_14 : decode cX5_isNoLift 14 = .ok (.putfield 1, 3) := by decide +kernel
theorem dX5_isNoLift_17 : decode cX5_isNoLift 17 = .ok (.aload_n 0, 1) := by decide +kernel
theorem dX5_isNoLift_18 : decode cX5_isNoLift 18 = .ok (.getfield 1, 3) := by decide +kernel
theorem dX5_isNoLift_21 : decode cX5_isNoLift 21 = .ok (.ifCond .le 7, 3) := by decide +kernel
theorem dX5_isNoLift_24 : decode cX5_isNoLift 24 = .ok (.iconst 1, 1) := by decide +kernel
theorem dX5_isNoLift_25 : decode cX5_isNoLift 25 = .ok (.goto 4, 3) := by decide +kernel
theorem dX5_isNoLift_28 : decode cX5_isNoLift 28 = .ok (.iconst 0, 1) := by decide +kernel
theorem dX5_isNoLift_29 : decode cX5_isNoLift 29 = .ok (.ireturn, 1) := by decide +kernel
theorem dX5_service_0 : decode cX5_service 0 = .ok (.aload_n 0, 1) := by decide +kernel
theorem dX5_service_1 : decode cX5_service 1 = .ok (.iload_n 1, 1) := by decide +kernel
theorem dX5_service_2 : decode cX5_service 2 = .ok (.invokevirtual 145, 3) := by decide +kernel
theorem dX5_service_5 : decode cX5_service 5 = .ok (.ifCond .eq 7, 3) := by decide +kernel
theorem dX5_service_8 : decode cX5_service 8 = .ok (.iconst 0, 1) := by decide +kernel
theorem dX5_service_9 : decode cX5_service 9 = .ok (.goto 9, 3) := by decide +kernel
theorem dX5_service_12 : decode cX5_service 12 = .ok (.aload_n 0, 1) := by decide +kernel
theorem dX5_service_13 : decode cX5_service 13 = .ok (.getfield 65, 3) := by decide +kernel
theorem dX5_service_16 : decode cX5_service 16 = .ok (.iload_n 1, 1) := by decide +kernel
theorem dX5_service_17 : decode cX5_service 17 = .ok (.caload, 1) := by decide +kernel
theorem dX5_service_18 : decode cX5_service 18 = .ok (.ireturn, 1) := by decide +kernel
theorem dX5_floorOfLift_0 : decode cX5_floorOfLift 0 = .ok (.aload_n 0, 1) := by decide +kernel
theorem dX5_floorOfLift_1 : decode cX5_floorOfLift 1 = .ok (.iload_n 1, 1) := by decide +kernel
theorem dX5_floorOfLift_2 : decode cX5_floorOfLift 2 = .ok (.invokevirtual 145, 3) := by decide +kernel
theorem dX5_floorOfLift_5 : decode cX5_floorOfLift 5 = .ok (.ifCond .eq 7, 3) := by decide +kernel
theorem dX5_floorOfLift_8 : decode cX5_floorOfLift 8 = .ok (.iconst 0, 1) := by decide +kernel
theorem dX5_floorOfLift_9 : decode cX5_floorOfLift 9 = .ok (.goto 9, 3) := by decide +kernel
theorem dX5_floorOfLift_12 : decode cX5_floorOfLift 12 = .ok (.aload_n 0, 1) := by decide +kernel
theorem dX5_floorOfLift_13 : decode cX5_floorOfLift 13 = .ok (.getfield 59, 3) := by decide +kernel
theorem dX5_floorOfLift_16 : decode cX5_floorOfLift 16 = .ok (.iload_n 1, 1) := by decide +kernel
theorem dX5_floorOfLift_17 : decode cX5_floorOfLift 17 = .ok (.iaload, 1) := by decide +kernel
theorem dX5_floorOfLift_18 : decode cX5_floorOfLift 18 = .ok (.ireturn, 1) := by decide +kernel
theorem dX5_isUp_0 : decode cX5_isUp 0 = .ok (.aload_n 0, 1) := by decide +kernel
theorem dX5_isUp_1 : decode cX5_isUp 1 = .ok (.iload_n 1, 1) := by decide +kernel
theorem dX5_isUp_2 : decode cX5_isUp 2 = .ok (.invokevirtual 145, 3) := by decide +kernel
theorem dX5_isUp_5 : decode cX5_isUp 5 = .ok (.ifCond .ne 16, 3) := by decide +kernel
theorem dX5_isUp_8 : decode cX5_isUp 8 = .ok (.aload_n 0, 1) := by decide +kernel
theorem dX5_isUp_9 : decode cX5_isUp 9 = .ok (.getfield 68, 3) := by decide +kernel
theorem dX5_isUp_12 : decode cX5_isUp 12 = .ok (.iload_n 1, 1) := by decide +kernel
theorem dX5_isUp_13 : decode cX5_isUp 13 = .ok (.baload, 1) := by decide +kernel
theorem dX5_isUp_14 : decode cX5_isUp 14 = .ok (.ifCond .eq 7, 3) := by decide +kernel
theorem dX5_isUp_17 : decode cX5_isUp 17 = .ok (.iconst 1, 1) := by decide +kernel
theorem dX5_isUp_18 : decode cX5_isUp 18 = .ok (.goto 4, 3) := by decide +kernel
theorem dX5_isUp_21 : decode cX5_isUp 21 = .ok (.iconst 0, 1) := by decide +kernel
theorem dX5_isUp_22 : decode cX5_isUp 22 = .ok (.ireturn, 1) := by decide +kernel
theorem dX5_aboard_0 : decode cX5_aboard 0 = .ok (.aload_n 0, 1) := by decide +kernel
theorem dX5_aboard_1 : decode cX5_aboard 1 = .ok (.iload_n 1, 1) := by decide +kernel
theorem dX5_aboard_2 : decode cX5_aboard 2 = .ok (.invokevirtual 145, 3) := by decide +kernel
theorem dX5_aboard_5 : decode cX5_aboard 5 = .ok (.ifCond .eq 7, 3) := by decide +kernel
theorem dX5_aboard_8 : decode cX5_aboard 8 = .ok (.iconst 0, 1) := by decide +kernel
theorem dX5_aboard_9 : decode cX5_aboard 9 = .ok (.goto 8, 3) := by decide +kernel
theorem dX5_aboard_12 : decode cX5_aboard 12 = .ok (.aload_n 0, 1) := by decide +kernel
theorem dX5_aboard_13 : decode cX5_aboard 13 = .ok (.iload_n 1, 1) := by decide +kernel
theorem dX5_aboard_14 : decode cX5_aboard 14 = .ok (.invokevirtual 148, 3) := by decide +kernel
theorem dX5_aboard_17 : decode cX5_aboard 17 = .ok (.ireturn, 1) := by decide +kernel
theorem dX5_score_0 : decode cX5_score 0 = .ok (.aload_n 0, 1) := by decide +kernel
theorem dX5_score_1 : decode cX5_score 1 = .ok (.aload_n 0, 1) := by decide +kernel
theorem dX5_score_2 : decode cX5_score 2 = .ok (.iload_n 1, 1) := by decide +kernel
theorem dX5_score_3 : decode cX5_score 3 = .ok (.invokevirtual 139, 3) := by decide +kernel
theorem dX5_score_6 : decode cX5_score 6 = .ok (.ifCond .eq 14, 3) := by decide +kernel
theorem dX5_score_9 : decode cX5_score 9 = .ok (.iload_n 2, 1) := by decide +kernel
theorem dX5_score_10 : decode cX5_score 10 = .ok (.invokestatic 94, 3) := by decide +kernel
theorem dX5_score_13 : decode cX5_score 13 = .ok (.ifCond .eq 7, 3) := by decide +kernel
theorem dX5_score_16 : decode cX5_score 16 = .ok (.iconst 0, 1) := by decide +kernel
theorem dX5_score_17 : decode cX5_score 17 = .ok (.goto 4, 3) := by decide +kernel
theorem dX5_score_20 : decode cX5_score 20 = .ok (.iconst 1, 1) := by decide +kernel
theorem dX5_score_21 : decode cX5_score 21 = .ok (.putfield 1, 3) := by decide +kernel
theorem dX5_score_24 : decode cX5_score 24 = .ok (.aload_n 0, 1) := by decide +kernel
theorem dX5_score_25 : decode cX5_score 25 = .ok (.getfield 1, 3) := by decide +kernel
theorem dX5_score_28 : decode cX5_score 28 = .ok (.ifCond .le 7, 3) := by decide +kernel
theorem dX5_score_31 : decode cX5_score 31 = .ok (.iconst 0, 1) := by decide +kernel
theorem dX5_score_32 : decode cX5_score 32 = .ok (.goto 9, 3) := by decide +kernel
theorem dX5_score_35 : decode cX5_score 35 = .ok (.aload_n 0, 1) := by decide +kernel
theorem dX5_score_36 : decode cX5_score 36 = .ok (.iload_n 1, 1) := by decide +kernel
theorem dX5_score_37 : decode cX5_score 37 = .ok (.iload_n 2, 1) := by decide +kernel
theorem dX5_score_38 : decode cX5_score 38 = .ok (.invokevirtual 106, 3) := by decide +kernel
theorem dX5_score_41 : decode cX5_score 41 = .ok (.ireturn, 1) := by decide +kernel
theorem dX5_opens_0 : decode cX5_opens 0 = .ok (.iconst 0, 1) := by decide +kernel
theorem dX5_opens_1 : decode cX5_opens 1 = .ok (.istore_n 2, 1) := by decide +kernel
theorem dX5_opens_2 : decode cX5_opens 2 = .ok (.iconst 0, 1) := by decide +kernel
theorem dX5_opens_3 : decode cX5_opens 3 = .ok (.istore_n 3, 1) := by decide +kernel
theorem dX5_opens_4 : decode cX5_opens 4 = .ok (.iload_n 3, 1) := by decide +kernel
theorem dX5_opens_5 : decode cX5_opens 5 = .ok (.aload_n 0, 1) := by decide +kernel
theorem dX5_opens_6 : decode cX5_opens 6 = .ok (.getfield 74, 3) := by decide +kernel
theorem dX5_opens_9 : decode cX5_opens 9 = .ok (.if_icmp .ge 102, 3) := by decide +kernel
theorem dX5_opens_12 : decode cX5_opens 12 = .ok (.aload_n 0, 1) := by decide +kernel
theorem dX5_opens_13 : decode cX5_opens 13 = .ok (.getfield 52, 3) := by decide +kernel
theorem dX5_opens_16 : decode cX5_opens 16 = .ok (.iload_n 3, 1) := by decide +kernel
theorem dX5_opens_17 : decode cX5_opens 17 = .ok (.caload, 1) := by decide +kernel
theorem dX5_opens_18 : decode cX5_opens 18 = .ok (.bipush 97, 2) := by decide +kernel
theorem dX5_opens_20 : decode cX5_opens 20 = .ok (.if_icmp .ne 85, 3) := by decide +kernel
theorem dX5_opens_23 : decode cX5_opens 23 = .ok (.aload_n 0, 1) := by decide +kernel
theorem dX5_opens_24 : decode cX5_opens 24 = .ok (.getfield 43, 3) := by decide +kernel
theorem dX5_opens_27 : decode cX5_opens 27 = .ok (.iload_n 3, 1) := by decide +kernel
theorem dX5_opens_28 : decode cX5_opens 28 = .ok (.iaload, 1) := by decide +kernel
theorem dX5_opens_29 : decode cX5_opens 29 = .ok (.iload_n 1, 1) := by decide +kernel
theorem dX5_opens_30 : decode cX5_opens 30 = .ok (.if_icmp .ne 75, 3) := by decide +kernel
theorem dX5_opens_33 : decode cX5_opens 33 = .ok (.aload_n 0, 1) := by decide +kernel
theorem dX5_opens_34 : decode cX5_opens 34 = .ok (.getfield 40, 3) := by decide +kernel
theorem dX5_opens_37 : decode cX5_opens 37 = .ok (.iload_n 3, 1) := by decide +kernel
theorem dX5_opens_38 : decode cX5_opens 38 = .ok (.iaload, 1) := by decide +kernel
theorem dX5_opens_39 : decode cX5_opens 39 = .ok (.aload_n 0, 1) := by decide +kernel
theorem dX5_opens_40 : decode cX5_opens 40 = .ok (.getfield 59, 3) := by decide +kernel
theorem dX5_opens_43 : decode cX5_opens 43 = .ok (.iload_n 1, 1) := by decide +kernel
theorem dX5_opens_44 : decode cX5_opens 44 = .ok (.iaload, 1) := by decide +kernel
theorem dX5_opens_45 : decode cX5_opens 45 = .ok (.if_icmp .eq 6, 3) := by decide +kernel
theorem dX5_opens_48 : decode cX5_opens 48 = .ok (.goto 57, 3) := by decide +kernel
theorem dX5_opens_51 : decode cX5_opens 51 = .ok (.aload_n 0, 1) := by decide +kernel
theorem dX5_opens_52 : decode cX5_opens 52 = .ok (.aload_n 0, 1) := by decide +kernel
theorem dX5_opens_53 : decode cX5_opens 53 = .ok (.getfield 34, 3) := by decide +kernel
theorem dX5_opens_56 : decode cX5_opens 56 = .ok (.iload_n 3, 1) := by decide +kernel
theorem dX5_opens_57 : decode cX5_opens 57 = .ok (.iaload, 1) := by decide +kernel
theorem dX5_opens_58 : decode cX5_opens 58 = .ok (.aload_n 0, 1) := by decide +kernel
theorem dX5_opens_59 : decode cX5_opens 59 = .ok (.getfield 59, 3) := by decide +kernel
theorem dX5_opens_62 : decode cX5_opens 62 = .ok (.iload_n 1, 1) := by decide +kernel
theorem dX5_opens_63 : decode cX5_opens 63 = .ok (.iaload, 1) := by decide +kernel
theorem dX5_opens_64 : decode cX5_opens 64 = .ok (.invokevirtual 97, 3) := by decide +kernel
theorem dX5_opens_67 : decode cX5_opens 67 = .ok (.bipush 110, 2) := by decide +kernel
theorem dX5_opens_69 : decode cX5_opens 69 = .ok (.if_icmp .ne 19, 3) := by decide +kernel
theorem dX5_opens_72 : decode cX5_opens 72 = .ok (.aload_n 0, 1) := by decide +kernel
theorem dX5_opens_73 : decode cX5_opens 73 = .ok (.iload_n 3, 1) := by decide +kernel
theorem dX5_opens_74 : decode cX5_opens 74 = .ok (.aload_n 0, 1) := by decide +kernel
theorem dX5_opens_75 : decode cX5_opens 75 = .ok (.getfield 59, 3) := by decide +kernel
theorem dX5_opens_78 : decode cX5_opens 78 = .ok (.iload_n 1, 1) := by decide +kernel
theorem dX5_opens_79 : decode cX5_opens 79 = .ok (.iaload, 1) := by decide +kernel
theorem dX5_opens_80 : decode cX5_opens 80 = .ok (.invokevirtual 151, 3) := by decide +kernel
theorem dX5_opens_83 : decode cX5_opens 83 = .ok (.iconst 1, 1) := by decide +kernel
theorem dX5_opens_84 : decode cX5_opens 84 = .ok (.istore_n 2, 1) := by decide +kernel
theorem dX5_opens_85 : decode cX5_opens 85 = .ok (.goto 20, 3) := by decide +kernel
theorem dX5_opens_88 : decode cX5_opens 88 = .ok (.aload_n 0, 1) := by decide +kernel
theorem dX5_opens_89 : decode cX5_opens 89 = .ok (.getfield 40, 3) := by decide +kernel
theorem dX5_opens_92 : decode cX5_opens 92 = .ok (.iload_n 3, 1) := by decide +kernel
theorem dX5_opens_93 : decode cX5_opens 93 = .ok (.iconst 0, 1) := by decide +kernel
theorem dX5_opens_94 : decode cX5_opens 94 = .ok (.iastore, 1) := by decide +kernel
theorem dX5_opens_95 : decode cX5_opens 95 = .ok (.aload_n 0, 1) := by decide +kernel
theorem dX5_opens_96 : decode cX5_opens 96 = .ok (.dup, 1) := by decide +kernel
theorem dX5_opens_97 : decode cX5_opens 97 = .ok (.getfield 155, 3) := by decide +kernel
theorem dX5_opens_100 : decode cX5_opens 100 = .ok (.iconst 1, 1) := by decide +kernel
theorem dX5_opens_101 : decode cX5_opens 101 = .ok (.iadd, 1) := by decide +kernel
theorem dX5_opens_102 : decode cX5_opens 102 = .ok (.putfield 155, 3) := by decide +kernel
theorem dX5_opens_105 : decode cX5_opens 105 = .ok (.iinc 3 1, 3) := by decide +kernel
theorem dX5_opens_108 : decode cX5_opens 108 = .ok (.goto (-104), 3) := by decide +kernel
theorem dX5_opens_111 : decode cX5_opens 111 = .ok (.iconst 0, 1) := by decide +kernel
theorem dX5_opens_112 : decode cX5_opens 112 = .ok (.istore_n 3, 1) := by decide +kernel
theorem dX5_opens_113 : decode cX5_opens 113 = .ok (.iload_n 3, 1) := by decide +kernel
theorem dX5_opens_114 : decode cX5_opens 114 = .ok (.aload_n 0, 1) := by decide +kernel
theorem dX5_opens_115 : decode cX5_opens 115 = .ok (.getfield 74, 3) := by decide +kernel
theorem dX5_opens_118 : decode cX5_opens 118 = .ok (.if_icmp .ge 103, 3) := by decide +kernel
theorem dX5_opens_121 : decode cX5_opens 121 = .ok (.aload_n 0, 1) := by decide +kernel
theorem dX5_opens_122 : decode cX5_opens 122 = .ok (.getfield 65, 3) := by decide +kernel
theorem dX5_opens_125 : decode cX5_opens 125 = .ok (.iload_n 1, 1) := by decide +kernel
theorem dX5_opens_126 : decode cX5_opens 126 = .ok (.caload, 1) := by decide +kernel
theorem dX5_opens_127 : decode cX5_opens 127 = .ok (.bipush 115, 2) := by decide +kernel
theorem dX5_opens_129 : decode cX5_opens 129 = .ok (.if_icmp .ne 92, 3) := by decide +kernel
theorem dX5_opens_132 : decode cX5_opens 132 = .ok (.aload_n 0, 1) := by decide +kernel
theorem dX5_opens_133 : decode cX5_opens 133 = .ok (.getfield 52, 3) := by decide +kernel
theorem dX5_opens_136 : decode cX5_opens 136 = .ok (.iload_n 3, 1) := by decide +kernel
theorem dX5_opens_137 : decode cX5_opens 137 = .ok (.caload, 1) := by decide +kernel
theorem dX5_opens_138 : decode cX5_opens 138 = .ok (.bipush 119, 2) := by decide +kernel
theorem dX5_opens_140 : decode cX5_opens 140 = .ok (.if_icmp .ne 75, 3) := by decide +kernel
theorem dX5_opens_143 : decode cX5_opens 143 = .ok (.aload_n 0, 1) := by decide +kernel
theorem dX5_opens_144 : decode cX5_opens 144 = .ok (.getfield 43, 3) := by decide +kernel
theorem dX5_opens_147 : decode cX5_opens 147 = .ok (.iload_n 3, 1) := by decide +kernel
theorem dX5_opens_148 : decode cX5_opens 148 = .ok (.iaload, 1) := by decide +kernel
theorem dX5_opens_149 : decode cX5_opens 149 = .ok (.iload_n 1, 1) := by decide +kernel
theorem dX5_opens_150 : decode cX5_opens 150 = .ok (.if_icmp .ne 65, 3) := by decide +kernel
theorem dX5_opens_153 : decode cX5_opens 153 = .ok (.aload_n 0, 1) := by decide +kernel
theorem dX5_opens_154 : decode cX5_opens 154 = .ok (.getfield 37, 3) := by decide +kernel
theorem dX5_opens_157 : decode cX5_opens 157 = .ok (.iload_n 3, 1) := by decide +kernel
theorem dX5_opens_158 : decode cX5_opens 158 = .ok (.iaload, 1) := by decide +kernel
theorem dX5_opens_159 : decode cX5_opens 159 = .ok (.aload_n 0, 1) := by decide +kernel
theorem dX5_opens_160 : decode cX5_opens 160 = .ok (.getfield 59, 3) := by decide +kernel
theorem dX5_opens_163 : decode cX5_opens 163 = .ok (.iload_n 1, 1) := by decide +kernel
theorem dX5_opens_164 : decode cX5_opens 164 = .ok (.iaload, 1) := by decide +kernel
theorem dX5_opens_165 : decode cX5_opens 165 = .ok (.if_icmp .ne 50, 3) := by decide +kernel
theorem dX5_opens_168 : decode cX5_opens 168 = .ok (.aload_n 0, 1) := by decide +kernel
theorem dX5_opens_169 : decode cX5_opens 169 = .ok (.iload_n 1, 1) := by decide +kernel
theorem dX5_opens_170 : decode cX5_opens 170 = .ok (.invokevirtual 148, 3) := by decide +kernel
theorem dX5_opens_173 : decode cX5_opens 173 = .ok (.aload_n 0, 1) := by decide +kernel
theorem dX5_opens_174 : decode cX5_opens 174 = .ok (.getfield 56, 3) := by decide +kernel
theorem dX5_opens_177 : decode cX5_opens 177 = .ok (.iload_n 1, 1) := by decide +kernel
theorem dX5_opens_178 : decode cX5_opens 178 = .ok (.iaload, 1) := by decide +kernel
theorem dX5_opens_179 : decode cX5_opens 179 = .ok (.if_icmp .ne 6, 3) := by decide +kernel
theorem dX5_opens_182 : decode cX5_opens 182 = .ok (.goto 33, 3) := by decide +kernel
theorem dX5_opens_185 : decode cX5_opens 185 = .ok (.aload_n 0, 1) := by decide +kernel
theorem dX5_opens_186 : decode cX5_opens 186 = .ok (.getfield 52, 3) := by decide +kernel
theorem dX5_opens_189 : decode cX5_opens 189 = .ok (.iload_n 3, 1) := by decide +kernel
theorem dX5_opens_190 : decode cX5_opens 190 = .ok (.bipush 97, 2) := by decide +kernel
theorem dX5_opens_192 : decode cX5_opens 192 = .ok (.castore, 1) := by decide +kernel
theorem dX5_opens_193 : decode cX5_opens 193 = .ok (.aload_n 0, 1) := by decide +kernel
theorem dX5_opens_194 : decode cX5_opens 194 = .ok (.getfield 49, 3) := by decide +kernel
theorem dX5_opens_197 : decode cX5_opens 197 = .ok (.iload_n 3, 1) := by decide +kernel
theorem dX5_opens_198 : decode cX5_opens 198 = .ok (.aload_n 0, 1) := by decide +kernel
theorem dX5_opens_199 : decode cX5_opens 199 = .ok (.getfield 91, 3) := by decide +kernel
theorem dX5_opens_202 : decode cX5_opens 202 = .ok (.iastore, 1) := by decide +kernel
theorem dX5_opens_203 : decode cX5_opens 203 = .ok (.aload_n 0, 1) := by decide +kernel
theorem dX5_opens_204 : decode cX5_opens 204 = .ok (.dup, 1) := by decide +kernel
theorem dX5_opens_205 : decode cX5_opens 205 = .ok (.getfield 110, 3) := by decide +kernel
theorem dX5_opens_208 : decode cX5_opens 208 = .ok (.iconst 1, 1) := by decide +kernel
theorem dX5_opens_209 : decode cX5_opens 209 = .ok (.iadd, 1) := by decide +kernel
theorem dX5_opens_210 : decode cX5_opens 210 = .ok (.putfield 110, 3) := by decide +kernel
theorem dX5_opens_213 : decode cX5_opens 213 = .ok (.iconst 1, 1) := by decide +kernel
theorem dX5_opens_214 : decode cX5_opens 214 = .ok (.istore_n 2, 1) := by decide +kernel
theorem dX5_opens_215 : decode cX5_opens 215 = .ok (.iinc 3 1, 3) := by decide +kernel
theorem dX5_opens_218 : decode cX5_opens 218 = .ok (.goto (-105), 3) := by decide +kernel
theorem dX5_opens_221 : decode cX5_opens 221 = .ok (.iload_n 2, 1) := by decide +kernel
theorem dX5_opens_222 : decode cX5_opens 222 = .ok (.ireturn, 1) := by decide +kernel
theorem dX5_isAim_0 : decode cX5_isAim 0 = .ok (.aload_n 0, 1) := by decide +kernel
theorem dX5_isAim_1 : decode cX5_isAim 1 = .ok (.getfield 43, 3) := by decide +kernel
theorem dX5_isAim_4 : decode cX5_isAim 4 = .ok (.iload_n 2, 1) := by decide +kernel
theorem dX5_isAim_5 : decode cX5_isAim 5 = .ok (.iaload, 1) := by decide +kernel
theorem dX5_isAim_6 : decode cX5_isAim 6 = .ok (.iload_n 1, 1) := by decide +kernel
theorem dX5_isAim_7 : decode cX5_isAim 7 = .ok (.if_icmp .ne 14, 3) := by decide +kernel
theorem dX5_isAim_10 : decode cX5_isAim 10 = .ok (.aload_n 0, 1) := by decide +kernel
theorem dX5_isAim_11 : decode cX5_isAim 11 = .ok (.getfield 52, 3) := by decide +kernel
theorem dX5_isAim_14 : decode cX5_isAim 14 = .ok (.iload_n 2, 1) := by decide +kernel
theorem dX5_isAim_15 : decode cX5_isAim 15 = .ok (.caload, 1) := by decide +kernel
theorem dX5_isAim_16 : decode cX5_isAim 16 = .ok (.bipush 100, 2) := by decide +kernel
theorem dX5_isAim_18 : decode cX5_isAim 18 = .ok (.if_icmp .ne 5, 3) := by decide +kernel
theorem dX5_isAim_21 : decode cX5_isAim 21 = .ok (.iconst 0, 1) := by decide +kernel
theorem dX5_isAim_22 : decode cX5_isAim 22 = .ok (.ireturn, 1) := by decide +kernel
theorem dX5_isAim_23 : decode cX5_isAim 23 = .ok (.aload_n 0, 1) := by decide +kernel
theorem dX5_isAim_24 : decode cX5_isAim 24 = .ok (.getfield 52, 3) := by decide +kernel
theorem dX5_isAim_27 : decode cX5_isAim 27 = .ok (.iload_n 2, 1) := by decide +kernel
theorem dX5_isAim_28 : decode cX5_isAim 28 = .ok (.caload, 1) := by decide +kernel
theorem dX5_isAim_29 : decode cX5_isAim 29 = .ok (.bipush 97, 2) := by decide +kernel
theorem dX5_isAim_31 : decode cX5_isAim 31 = .ok (.if_icmp .ne 19, 3) := by decide +kernel
theorem dX5_isAim_34 : decode cX5_isAim 34 = .ok (.aload_n 0, 1) := by decide +kernel
theorem dX5_isAim_35 : decode cX5_isAim 35 = .ok (.getfield 40, 3) := by decide +kernel
theorem dX5_isAim_38 : decode cX5_isAim 38 = .ok (.iload_n 2, 1) := by decide +kernel
theorem dX5_isAim_39 : decode cX5_isAim 39 = .ok (.iaload, 1) := by decide +kernel
theorem dX5_isAim_40 : decode cX5_isAim 40 = .ok (.iload_n 3, 1) := by decide +kernel
theorem dX5_isAim_41 : decode cX5_isAim 41 = .ok (.if_icmp .ne 7, 3) := by decide +kernel
theorem dX5_isAim_44 : decode cX5_isAim 44 = .ok (.iconst 1, 1) := by decide +kernel
theorem dX5_isAim_45 : decode cX5_isAim 45 = .ok (.goto 4, 3) := by decide +kernel
theorem dX5_isAim_48 : decode cX5_isAim 48 = .ok (.iconst 0, 1) := by decide +kernel
theorem dX5_isAim_49 : decode cX5_isAim 49 = .ok (.ireturn, 1) := by decide +kernel
theorem dX5_isAim_50 : decode cX5_isAim 50 = .ok (.aload_n 0, 1) := by decide +kernel
theorem dX5_isAim_51 : decode cX5_isAim 51 = .ok (.getfield 37, 3) := by decide +kernel
theorem dX5_isAim_54 : decode cX5_isAim 54 = .ok (.iload_n 2, 1) := by decide +kernel
theorem dX5_isAim_55 : decode cX5_isAim 55 = .ok (.iaload, 1) := by decide +kernel
theorem dX5_isAim_56 : decode cX5_isAim 56 = .ok (.iload_n 3, 1) := by decide +kernel
theorem dX5_isAim_57 : decode cX5_isAim 57 = .ok (.if_icmp .ne 32, 3) := by decide +kernel
theorem dX5_isAim_60 : decode cX5_isAim 60 = .ok (.aload_n 0, 1) := by decide +kernel
theorem dX5_isAim_61 : decode cX5_isAim 61 = .ok (.getfield 65, 3) := by decide +kernel
theorem dX5_isAim_64 : decode cX5_isAim 64 = .ok (.iload_n 1, 1) := by decide +kernel
theorem dX5_isAim_65 : decode cX5_isAim 65 = .ok (.caload, 1) := by decide +kernel
theorem dX5_isAim_66 : decode cX5_isAim 66 = .ok (.bipush 115, 2) := by decide +kernel
theorem dX5_isAim_68 : decode cX5_isAim 68 = .ok (.if_icmp .ne 21, 3) := by decide +kernel
theorem dX5_isAim_71 : decode cX5_isAim 71 = .ok (.aload_n 0, 1) := by decide +kernel
theorem dX5_isAim_72 : decode cX5_isAim 72 = .ok (.iload_n 1, 1) := by decide +kernel
theorem dX5_isAim_73 : decode cX5_isAim 73 = .ok (.invokevirtual 148, 3) := by decide +kernel
theorem dX5_isAim_76 : decode cX5_isAim 76 = .ok (.aload_n 0, 1) := by decide +kernel
theorem dX5_isAim_77 : decode cX5_isAim 77 = .ok (.getfield 56, 3) := by decide +kernel
theorem dX5_isAim_80 : decode cX5_isAim 80 = .ok (.iload_n 1, 1) := by decide +kernel
theorem dX5_isAim_81 : decode cX5_isAim 81 = .ok (.iaload, 1) := by decide +kernel
theorem dX5_isAim_82 : decode cX5_isAim 82 = .ok (.if_icmp .ge 7, 3) := by decide +kernel
theorem dX5_isAim_85 : decode cX5_isAim 85 = .ok (.iconst 1, 1) := by decide +kernel
theorem dX5_isAim_86 : decode cX5_isAim 86 = .ok (.goto 4, 3) := by decide +kernel
theorem dX5_isAim_89 : decode cX5_isAim 89 = .ok (.iconst 0, 1) := by decide +kernel
theorem dX5_isAim_90 : decode cX5_isAim 90 = .ok (.ireturn, 1) := by decide +kernel
theorem dX5_hasAim_0 : decode cX5_hasAim 0 = .ok (.iload_n 2, 1) := by decide +kernel
theorem dX5_hasAim_1 : decode cX5_hasAim 1 = .ok (.istore 4, 2) := by decide +kernel
theorem dX5_hasAim_3 : decode cX5_hasAim 3 = .ok (.iload 4, 2) := by decide +kernel
theorem dX5_hasAim_5 : decode cX5_hasAim 5 = .ok (.iload_n 3, 1) := by decide +kernel
theorem dX5_hasAim_6 : decode cX5_hasAim 6 = .ok (.if_icmp .gt 41, 3) := by decide +kernel
theorem dX5_hasAim_9 : decode cX5_hasAim 9 = .ok (.iconst 0, 1) := by decide +kernel
theorem dX5_hasAim_10 : decode cX5_hasAim 10 = .ok (.istore 5, 2) := by decide +kernel
theorem dX5_hasAim_12 : decode cX5_hasAim 12 = .ok (.iload 5, 2) := by decide +kernel
theorem dX5_hasAim_14 : decode cX5_hasAim 14 = .ok (.aload_n 0, 1) := by decide +kernel
theorem dX5_hasAim_15 : decode cX5_hasAim 15 = .ok (.getfield 74, 3) := by decide +kernel
theorem dX5_hasAim_18 : decode cX5_hasAim 18 = .ok (.if_icmp .ge 23, 3) := by decide +kernel
theorem dX5_hasAim_21 : decode cX5_hasAim 21 = .ok (.aload_n 0, 1) := by decide +kernel
theorem dX5_hasAim_22 : decode cX5_hasAim 22 = .ok (.iload_n 1, 1) := by decide +kernel
theorem dX5_hasAim_23 : decode cX5_hasAim 23 = .ok (.iload 5, 2) := by decide +kernel
theorem dX5_hasAim_25 : decode cX5_hasAim 25 = .ok (.iload 4, 2) := by decide +kernel
theorem dX5_hasAim_27 : decode cX5_hasAim 27 = .ok (.invokevirtual 158, 3) := by decide +kernel
theorem dX5_hasAim_30 : decode cX5_hasAim 30 = .ok (.ifCond .eq 5, 3) := by decide +kernel
theorem dX5_hasAim_33 : decode cX5_hasAim 33 = .ok (.iconst 1, 1) := by decide +kernel
theorem dX5_hasAim_34 : decode cX5_hasAim 34 = .ok (.ireturn, 1) := by decide +kernel
theorem dX5_hasAim_35 : decode cX5_hasAim 35 = .ok (.iinc 5 1, 3) := by decide +kernel
theorem dX5_hasAim_38 : decode cX5_hasAim 38 = .ok (.goto (-26), 3) := by decide +kernel
theorem dX5_hasAim_41 : decode cX5_hasAim 41 = .ok (.iinc 4 1, 3) := by decide +kernel
theorem dX5_hasAim_44 : decode cX5_hasAim 44 = .ok (.goto (-41), 3) := by decide +kernel
theorem dX5_hasAim_47 : decode cX5_hasAim 47 = .ok (.iconst 0, 1) := by decide +kernel
theorem dX5_hasAim_48 : decode cX5_hasAim 48 = .ok (.ireturn, 1) := by decide +kernel
theorem dX5_goes_0 : decode cX5_goes 0 = .ok (.aload_n 0, 1) := by decide +kernel
theorem dX5_goes_1 : decode cX5_goes 1 = .ok (.iload_n 1, 1) := by decide +kernel
theorem dX5_goes_2 : decode cX5_goes 2 = .ok (.aload_n 0, 1) := by decide +kernel
theorem dX5_goes_3 : decode cX5_goes 3 = .ok (.getfield 59, 3) := by decide +kernel
theorem dX5_goes_6 : decode cX5_goes 6 = .ok (.iload_n 1, 1) := by decide +kernel
theorem dX5_goes_7 : decode cX5_goes 7 = .ok (.iaload, 1) := by decide +kernel
theorem dX5_goes_8 : decode cX5_goes 8 = .ok (.iconst 1, 1) := by decide +kernel
theorem dX5_goes_9 : decode cX5_goes 9 = .ok (.iadd, 1) := by decide +kernel
theorem dX5_goes_10 : decode cX5_goes 10 = .ok (.bipush 9, 2) := by decide +kernel
theorem dX5_goes_12 : decode cX5_goes 12 = .ok (.invokevirtual 161, 3) := by decide +kernel
theorem dX5_goes_15 : decode cX5_goes 15 = .ok (.istore_n 2, 1) := by decide +kernel
theorem dX5_goes_16 : decode cX5_goes 16 = .ok (.aload_n 0, 1) := by decide +kernel
theorem dX5_goes_17 : decode cX5_goes 17 = .ok (.iload_n 1, 1) := by decide +kernel
theorem dX5_goes_18 : decode cX5_goes 18 = .ok (.iconst 0, 1) := by decide +kernel
theorem dX5_goes_19 : decode cX5_goes 19 = .ok (.aload_n 0, 1) := by decide +kernel
theorem dX5_goes_20 : decode cX5_goes 20 = .ok (.getfield 59, 3) := by decide +kernel
theorem dX5_goes_23 : decode cX5_goes 23 = .ok (.iload_n 1, 1) := by decide +kernel
theorem dX5_goes_24 : decode cX5_goes 24 = .ok (.iaload, 1) := by decide +kernel
theorem dX5_goes_25 : decode cX5_goes 25 = .ok (.iconst 1, 1) := by decide +kernel
theorem dX5_goes_26 : decode cX5_goes 26 = .ok (.isub, 1) := by decide +kernel
theorem dX5_goes_27 : decode cX5_goes 27 = .ok (.invokevirtual 161, 3) := by decide +kernel
theorem dX5_goes_30 : decode cX5_goes 30 = .ok (.istore_n 3, 1) := by decide +kernel
theorem dX5_goes_31 : decode cX5_goes 31 = .ok (.iload_n 2, 1) := by decide +kernel
theorem dX5_goes_32 : decode cX5_goes 32 = .ok (.ifCond .ne 36, 3) := by decide +kernel
theorem dX5_goes_35 : decode cX5_goes 35 = .ok (.iload_n 3, 1) := by decide +kernel
theorem dX5_goes_36 : decode cX5_goes 36 = .ok (.ifCond .ne 32, 3) := by decide +kernel
theorem dX5_goes_39 : decode cX5_goes 39 = .ok (.aload_n 0, 1) := by decide +kernel
theorem dX5_goes_40 : decode cX5_goes 40 = .ok (.getfield 65, 3) := by decide +kernel
theorem dX5_goes_43 : decode cX5_goes 43 = .ok (.iload_n 1, 1) := by decide +kernel
theorem dX5_goes_44 : decode cX5_goes 44 = .ok (.caload, 1) := by decide +kernel
theorem dX5_goes_45 : decode cX5_goes 45 = .ok (.bipush 111, 2) := by decide +kernel
theorem dX5_goes_47 : decode cX5_goes 47 = .ok (.if_icmp .eq 4, 3) := by decide +kernel
theorem dX5_goes_50 : decode cX5_goes 50 = .ok (.return_, 1) := by decide +kernel
theorem dX5_goes_51 : decode cX5_goes 51 = .ok (.aload_n 0, 1) := by decide +kernel
theorem dX5_goes_52 : decode cX5_goes 52 = .ok (.getfield 65, 3) := by decide +kernel
theorem dX5_goes_55 : decode cX5_goes 55 = .ok (.iload_n 1, 1) := by decide +kernel
theorem dX5_goes_56 : decode cX5_goes 56 = .ok (.bipush 99, 2) := by decide +kernel
theorem dX5_goes_58 : decode cX5_goes 58 = .ok (.castore, 1) := by decide +kernel
theorem dX5_goes_59 : decode cX5_goes 59 = .ok (.aload_n 0, 1) := by decide +kernel
theorem dX5_goes_60 : decode cX5_goes 60 = .ok (.getfield 62, 3) := by decide +kernel
theorem dX5_goes_63 : decode cX5_goes 63 = .ok (.iload_n 1, 1) := by decide +kernel
theorem dX5_goes_64 : decode cX5_goes 64 = .ok (.bipush 20, 2) := by decide +kernel
theorem dX5_goes_66 : decode cX5_goes 66 = .ok (.iastore, 1) := by decide +kernel
theorem dX5_goes_67 : decode cX5_goes 67 = .ok (.return_, 1) := by decide +kernel
theorem dX5_goes_68 : decode cX5_goes 68 = .ok (.aload_n 0, 1) := by decide +kernel
theorem dX5_goes_69 : decode cX5_goes 69 = .ok (.getfield 68, 3) := by decide +kernel
theorem dX5_goes_72 : decode cX5_goes 72 = .ok (.iload_n 1, 1) := by decide +kernel
theorem dX5_goes_73 : decode cX5_goes 73 = .ok (.aload_n 0, 1) := by decide +kernel
theorem dX5_goes_74 : decode cX5_goes 74 = .ok (.getfield 68, 3) := by decide +kernel
theorem dX5_goes_77 : decode cX5_goes 77 = .ok (.iload_n 1, 1) := by decide +kernel
theorem dX5_goes_78 : decode cX5_goes 78 = .ok (.baload, 1) := by decide +kernel
theorem dX5_goes_79 : decode cX5_goes 79 = .ok (.ifCond .eq 7, 3) := by decide +kernel
theorem dX5_goes_82 : decode cX5_goes 82 = .ok (.iload_n 2, 1) := by decide +kernel
theorem dX5_goes_83 : decode cX5_goes 83 = .ok (.goto 12, 3) := by decide +kernel
theorem dX5_goes_86 : decode cX5_goes 86 = .ok (.iload_n 3, 1) := by decide +kernel
theorem dX5_goes_87 : decode cX5_goes 87 = .ok (.ifCond .ne 7, 3) := by decide +kernel
theorem dX5_goes_90 : decode cX5_goes 90 = .ok (.iconst 1, 1) := by decide +kernel
theorem dX5_goes_91 : decode cX5_goes 91 = .ok (.goto 4, 3) := by decide +kernel
theorem dX5_goes_94 : decode cX5_goes 94 = .ok (.iconst 0, 1) := by decide +kernel
theorem dX5_goes_95 : decode cX5_goes 95 = .ok (.bastore, 1) := by decide +kernel
theorem dX5_goes_96 : decode cX5_goes 96 = .ok (.aload_n 0, 1) := by decide +kernel
theorem dX5_goes_97 : decode cX5_goes 97 = .ok (.getfield 59, 3) := by decide +kernel
theorem dX5_goes_100 : decode cX5_goes 100 = .ok (.iload_n 1, 1) := by decide +kernel
theorem dX5_goes_101 : decode cX5_goes 101 = .ok (.dup2, 1) := by decide +kernel
theorem dX5_goes_102 : decode cX5_goes 102 = .ok (.iaload, 1) := by decide +kernel
theorem dX5_goes_103 : decode cX5_goes 103 = .ok (.aload_n 0, 1) := by decide +kernel
theorem dX5_goes_104 : decode cX5_goes 104 = .ok (.getfield 68, 3) := by decide +kernel
theorem dX5_goes_107 : decode cX5_goes 107 = .ok (.iload_n 1, 1) := by decide +kernel
theorem dX5_goes_108 : decode cX5_goes 108 = .ok (.baload, 1) := by decide +kernel
theorem dX5_goes_109 : decode cX5_goes 109 = .ok (.ifCond .eq 7, 3) := by decide +kernel
theorem dX5_goes_112 : decode cX5_goes 112 = .ok (.iconst 1, 1) := by decide +kernel
theorem dX5_goes_113 : decode cX5_goes 113 = .ok (.goto 4, 3) := by decide +kernel
theorem dX5_goes_116 : decode cX5_goes 116 = .ok (.iconst (-1), 1) := by decide +kernel
theorem dX5_goes_117 : decode cX5_goes 117 = .ok (.iadd, 1) := by decide +kernel
theorem dX5_goes_118 : decode cX5_goes 118 = .ok (.iastore, 1) := by decide +kernel
theorem dX5_goes_119 : decode cX5_goes 119 = .ok (.return_, 1) := by decide +kernel
theorem dX5_works_0 : decode cX5_works 0 = .ok (.aload_n 0, 1) := by decide +kernel
theorem dX5_works_1 : decode cX5_works 1 = .ok (.getfield 65, 3) := by decide +kernel
theorem dX5_works_4 : decode cX5_works 4 = .ok (.iload_n 1, 1) := by decide +kernel
theorem dX5_works_5 : decode cX5_works 5 = .ok (.caload, 1) := by decide +kernel
theorem dX5_works_6 : decode cX5_works 6 = .ok (.bipush 99, 2) := by decide +kernel
theorem dX5_works_8 : decode cX5_works 8 = .ok (.if_icmp .ne 33, 3) := by decide +kernel
theorem dX5_works_11 : decode cX5_works 11 = .ok (.aload_n 0, 1) := by decide +kernel
theorem dX5_works_12 : decode cX5_works 12 = .ok (.getfield 62, 3) := by decide +kernel
theorem dX5_works_15 : decode cX5_works 15 = .ok (.iload_n 1, 1) := by decide +kernel
theorem dX5_works_16 : decode cX5_works 16 = .ok (.dup2, 1) := by decide +kernel
theorem dX5_works_17 : decode cX5_works 17 = .ok (.iaload, 1) := by decide +kernel
theorem dX5_works_18 : decode cX5_works 18 = .ok (.iconst 1, 1) := by decide +kernel
theorem dX5_works_19 : decode cX5_works 19 = .ok (.isub, 1) := by decide +kernel
theorem dX5_works_20 : decode cX5_works 20 = .ok (.iastore, 1) := by decide +kernel
theorem dX5_works_21 : decode cX5_works 21 = .ok (.aload_n 0, 1) := by decide +kernel
theorem dX5_works_22 : decode cX5_works 22 = .ok (.getfield 62, 3) := by decide +kernel
theorem dX5_works_25 : decode cX5_works 25 = .ok (.iload_n 1, 1) := by decide +kernel
theorem dX5_works_26 : decode cX5_works 26 = .ok (.iaload, 1) := by decide +kernel
theorem dX5_works_27 : decode cX5_works 27 = .ok (.ifCond .ne 40, 3) := by decide +kernel
theorem dX5_works_30 : decode cX5_works 30 = .ok (.aload_n 0, 1) := by decide +kernel
theorem dX5_works_31 : decode cX5_works 31 = .ok (.getfield 65, 3) := by decide +kernel
theorem dX5_works_34 : decode cX5_works 34 = .ok (.iload_n 1, 1) := by decide +kernel
theorem dX5_works_35 : decode cX5_works 35 = .ok (.bipush 115, 2) := by decide +kernel
theorem dX5_works_37 : decode cX5_works 37 = .ok (.castore, 1) := by decide +kernel
theorem dX5_works_38 : decode cX5_works 38 = .ok (.goto 29, 3) := by decide +kernel
theorem dX5_works_41 : decode cX5_works 41 = .ok (.aload_n 0, 1) := by decide +kernel
theorem dX5_works_42 : decode cX5_works 42 = .ok (.iload_n 1, 1) := by decide +kernel
theorem dX5_works_43 : decode cX5_works 43 = .ok (.invokevirtual 164, 3) := by decide +kernel
theorem dX5_works_46 : decode cX5_works 46 = .ok (.ifCond .eq 16, 3) := by decide +kernel
theorem dX5_works_49 : decode cX5_works 49 = .ok (.aload_n 0, 1) := by decide +kernel
theorem dX5_works_50 : decode cX5_works 50 = .ok (.dup, 1) := by decide +kernel
theorem dX5_works_51 : decode cX5_works 51 = .ok (.getfield 166, 3) := by decide +kernel
theorem dX5_works_54 : decode cX5_works 54 = .ok (.iconst 1, 1) := by decide +kernel
theorem dX5_works_55 : decode cX5_works 55 = .ok (.iadd, 1) := by decide +kernel
theorem dX5_works_56 : decode cX5_works 56 = .ok (.putfield 166, 3) := by decide +kernel
theorem dX5_works_59 : decode cX5_works 59 = .ok (.goto 8, 3) := by decide +kernel
theorem dX5_works_62 : decode cX5_works 62 = .ok (.aload_n 0, 1) := by decide +kernel
theorem dX5_works_63 : decode cX5_works 63 = .ok (.iload_n 1, 1) := by decide +kernel
theorem dX5_works_64 : decode cX5_works 64 = .ok (.invokevirtual 169, 3) := by decide +kernel
theorem dX5_works_67 : decode cX5_works 67 = .ok (.return_, 1) := by decide +kernel
theorem dX5_isWaiting_0 : decode cX5_isWaiting 0 = .ok (.iconst 0, 1) := by decide +kernel
theorem dX5_isWaiting_1 : decode cX5_isWaiting 1 = .ok (.istore_n 2, 1) := by decide +kernel
theorem dX5_isWaiting_2 : decode cX5_isWaiting 2 = .ok (.iload_n 2, 1) := by decide +kernel
theorem dX5_isWaiting_3 : decode cX5_isWaiting 3 = .ok (.aload_n 0, 1) := by decide +kernel
theorem dX5_isWaiting_4 : decode cX5_isWaiting 4 = .ok (.getfield 74, 3) := by decide +kernel
theorem dX5_isWaiting_7 : decode cX5_isWaiting 7 = .ok (.if_icmp .ge 32, 3) := by decide +kernel
theorem dX5_isWaiting_10 : decode cX5_isWaiting 10 = .ok (.aload_n 0, 1) := by decide +kernel
theorem dX5_isWaiting_11 : decode cX5_isWaiting 11 = .ok (.getfield 52, 3) := by decide +kernel
theorem dX5_isWaiting_14 : decode cX5_isWaiting 14 = .ok (.iload_n 2, 1) := by decide +kernel
theorem dX5_isWaiting_15 : decode cX5_isWaiting 15 = .ok (.caload, 1) := by decide +kernel
theorem dX5_isWaiting_16 : decode cX5_isWaiting 16 = .ok (.bipush 119, 2) := by decide +kernel
theorem dX5_isWaiting_18 : decode cX5_isWaiting 18 = .ok (.if_icmp .ne 15, 3) := by decide +kernel
theorem dX5_isWaiting_21 : decode cX5_isWaiting 21 = .ok (.aload_n 0, 1) := by decide +kernel
theorem dX5_isWaiting_22 : decode cX5_isWaiting 22 = .ok (.getfield 37, 3) := by decide +kernel
theorem dX5_isWaiting_25 : decode cX5_isWaiting 25 = .ok (.iload_n 2, 1) := by decide +kernel
theorem dX5_isWaiting_26 : decode cX5_isWaiting 26 = .ok (.iaload, 1) := by decide +kernel
theorem dX5_isWaiting_27 : decode cX5_isWaiting 27 = .ok (.iload_n 1, 1) := by decide +kernel
theorem dX5_isWaiting_28 : decode cX5_isWaiting 28 = .ok (.if_icmp .ne 5, 3) := by decide +kernel
theorem dX5_isWaiting_31 : decode cX5_isWaiting 31 = .ok (.iconst 1, 1) := by decide +kernel
theorem dX5_isWaiting_32 : decode cX5_isWaiting 32 = .ok (.ireturn, 1) := by decide +kernel
theorem dX5_isWaiting_33 : decode cX5_isWaiting 33 = .ok (.iinc 2 1, 3) := by decide +kernel
theorem dX5_isWaiting_36 : decode cX5_isWaiting 36 = .ok (.goto (-34), 3) := by decide +kernel
theorem dX5_isWaiting_39 : decode cX5_isWaiting 39 = .ok (.iconst 0, 1) := by decide +kernel
theorem dX5_isWaiting_40 : decode cX5_isWaiting 40 = .ok (.ireturn, 1) := by decide +kernel
theorem dX5_turnNow_0 : decode cX5_turnNow 0 = .ok (.iconst 0, 1) := by decide +kernel
theorem dX5_turnNow_1 : decode cX5_turnNow 1 = .ok (.istore_n 1, 1) := by decide +kernel
theorem dX5_turnNow_2 : decode cX5_turnNow 2 = .ok (.iload_n 1, 1) := by decide +kernel
theorem dX5_turnNow_3 : decode cX5_turnNow 3 = .ok (.bipush 10, 2) := by decide +kernel
theorem dX5_turnNow_5 : decode cX5_turnNow 5 = .ok (.if_icmp .ge 49, 3) := by decide +kernel
theorem dX5_turnNow_8 : decode cX5_turnNow 8 = .ok (.aload_n 0, 1) := by decide +kernel
theorem dX5_turnNow_9 : decode cX5_turnNow 9 = .ok (.aload_n 0, 1) := by decide +kernel
theorem dX5_turnNow_10 : decode cX5_turnNow 10 = .ok (.getfield 172, 3) := by decide +kernel
theorem dX5_turnNow_13 : decode cX5_turnNow 13 = .ok (.iload_n 1, 1) := by decide +kernel
theorem dX5_turnNow_14 : decode cX5_turnNow 14 = .ok (.iadd, 1) := by decide +kernel
theorem dX5_turnNow_15 : decode cX5_turnNow 15 = .ok (.invokevirtual 175, 3) := by decide +kernel
theorem dX5_turnNow_18 : decode cX5_turnNow 18 = .ok (.ifCond .eq 10, 3) := by decide +kernel
theorem dX5_turnNow_21 : decode cX5_turnNow 21 = .ok (.aload_n 0, 1) := by decide +kernel
theorem dX5_turnNow_22 : decode cX5_turnNow 22 = .ok (.getfield 172, 3) := by decide +kernel
theorem dX5_turnNow_25 : decode cX5_turnNow 25 = .ok (.iload_n 1, 1) := by decide +kernel
theorem dX5_turnNow_26 : decode cX5_turnNow 26 = .ok (.iadd, 1) := by decide +kernel
theorem dX5_turnNow_27 : decode cX5_turnNow 27 = .ok (.ireturn, 1) := by decide +kernel
theorem dX5_turnNow_28 : decode cX5_turnNow 28 = .ok (.aload_n 0, 1) := by decide +kernel
theorem dX5_turnNow_29 : decode cX5_turnNow 29 = .ok (.aload_n 0, 1) := by decide +kernel
theorem dX5_turnNow_30 : decode cX5_turnNow 30 = .ok (.getfield 172, 3) := by decide +kernel
theorem dX5_turnNow_33 : decode cX5_turnNow 33 = .ok (.iload_n 1, 1) := by decide +kernel
theorem dX5_turnNow_34 : decode cX5_turnNow 34 = .ok (.isub, 1) := by decide +kernel
theorem dX5_turnNow_35 : decode cX5_turnNow 35 = .ok (.invokevirtual 175, 3) := by decide +kernel
theorem dX5_turnNow_38 : decode cX5_turnNow 38 = .ok (.ifCond .eq 10, 3) := by decide +kernel
theorem dX5_turnNow_41 : decode cX5_turnNow 41 = .ok (.aload_n 0, 1) := by decide +kernel
theorem dX5_turnNow_42 : decode cX5_turnNow 42 = .ok (.getfield 172, 3) := by decide +kernel
theorem dX5_turnNow_45 : decode cX5_turnNow 45 = .ok (.iload_n 1, 1) := by decide +kernel
theorem dX5_turnNow_46 : decode cX5_turnNow 46 = .ok (.isub, 1) := by decide +kernel
theorem dX5_turnNow_47 : decode cX5_turnNow 47 = .ok (.ireturn, 1) := by decide +kernel
theorem dX5_turnNow_48 : decode cX5_turnNow 48 = .ok (.iinc 1 1, 3) := by decide +kernel
theorem dX5_turnNow_51 : decode cX5_turnNow 51 = .ok (.goto (-49), 3) := by decide +kernel
theorem dX5_turnNow_54 : decode cX5_turnNow 54 = .ok (.iconst (-1), 1) := by decide +kernel
theorem dX5_turnNow_55 : decode cX5_turnNow 55 = .ok (.ireturn, 1) := by decide +kernel
theorem dX5_outMany_0 : decode cX5_outMany 0 = .ok (.iconst 0, 1) := by decide +kernel
theorem dX5_outMany_1 : decode cX5_outMany 1 = .ok (.istore_n 1, 1) := by decide +kernel
theorem dX5_outMany_2 : decode cX5_outMany 2 = .ok (.iconst 0, 1) := by decide +kernel
theorem dX5_outMany_3 : decode cX5_outMany 3 = .ok (.istore_n 2, 1) := by decide +kernel
theorem dX5_outMany_4 : decode cX5_outMany 4 = .ok (.iload_n 2, 1) := by decide +kernel
theorem dX5_outMany_5 : decode cX5_outMany 5 = .ok (.aload_n 0, 1) := by decide +kernel
theorem dX5_outMany_6 : decode cX5_outMany 6 = .ok (.getfield 74, 3) := by decide +kernel
theorem dX5_outMany_9 : decode cX5_outMany 9 = .ok (.if_icmp .ge 28, 3) := by decide +kernel
theorem dX5_outMany_12 : decode cX5_outMany 12 = .ok (.iload_n 1, 1) := by decide +kernel
theorem dX5_outMany_13 : decode cX5_outMany 13 = .ok (.aload_n 0, 1) := by decide +kernel
theorem dX5_outMany_14 : decode cX5_outMany 14 = .ok (.getfield 52, 3) := by decide +kernel
theorem dX5_outMany_17 : decode cX5_outMany 17 = .ok (.iload_n 2, 1) := by decide +kernel
theorem dX5_outMany_18 : decode cX5_outMany 18 = .ok (.caload, 1) := by decide +kernel
theorem dX5_outMany_19 : decode cX5_outMany 19 = .ok (.bipush 100, 2) := by decide +kernel
theorem dX5_outMany_21 : decode cX5_outMany 21 = .ok (.if_icmp .ne 7, 3) := by decide +kernel
theorem dX5_outMany_24 : decode cX5_outMany 24 = .ok (.iconst 0, 1) := by decide +kernel
theorem dX5_outMany_25 : decode cX5_outMany 25 = .ok (.goto 4, 3) := by decide +kernel
theorem dX5_outMany_28 : decode cX5_outMany 28 = .ok (.iconst 1, 1) := by decide +kernel
theorem dX5_outMany_29 : decode cX5_outMany 29 = .ok (.iadd, 1) := by decide +kernel
theorem dX5_outMany_30 : decode cX5_outMany 30 = .ok (.istore_n 1, 1) := by decide +kernel
theorem dX5_outMany_31 : decode cX5_outMany 31 = .ok (.iinc 2 1, 3) := by decide +kernel
theorem dX5_outMany_34 : decode cX5_outMany 34 = .ok (.goto (-30), 3) := by decide +kernel
theorem dX5_outMany_37 : decode cX5_outMany 37 = .ok (.iload_n 1, 1) := by decide +kernel
theorem dX5_outMany_38 : decode cX5_outMany 38 = .ok (.ireturn, 1) := by decide +kernel
theorem dX5_passesOne_0 : decode cX5_passesOne 0 = .ok (.aload_n 0, 1) := by decide +kernel
theorem dX5_passesOne_1 : decode cX5_passesOne 1 = .ok (.getfield 119, 3) := by decide +kernel
theorem dX5_passesOne_4 : decode cX5_passesOne 4 = .ok (.ifCond .eq 10, 3) := by decide +kernel
theorem dX5_passesOne_7 : decode cX5_passesOne 7 = .ok (.aload_n 0, 1) := by decide +kernel
theorem dX5_passesOne_8 : decode cX5_passesOne 8 = .ok (.invokevirtual 178, 3) := by decide +kernel
theorem dX5_passesOne_11 : decode cX5_passesOne 11 = .ok (.goto 4, 3) := by decide +kernel
theorem dX5_passesOne_14 : decode cX5_passesOne 14 = .ok (.iconst (-1), 1) := by decide +kernel
theorem dX5_passesOne_15 : decode cX5_passesOne 15 = .ok (.istore_n 1, 1) := by decide +kernel
theorem dX5_passesOne_16 : decode cX5_passesOne 16 = .ok (.aload_n 0, 1) := by decide +kernel
theorem dX5_passesOne_17 : decode cX5_passesOne 17 = .ok (.getfield 119, 3) := by decide +kernel
theorem dX5_passesOne_20 : decode cX5_passesOne 20 = .ok (.ifCond .eq 9, 3) := by decide +kernel
theorem dX5_passesOne_23 : decode cX5_passesOne 23 = .ok (.aload_n 0, 1) := by decide +kernel
theorem dX5_passesOne_24 : decode cX5_passesOne 24 = .ok (.iconst (-1), 1) := by decide +kernel
theorem dX5_passesOne_25 : decode cX5_passesOne 25 = .ok (.invokevirtual 142, 3) := by decide +kernel
theorem dX5_passesOne_28 : decode cX5_passesOne 28 = .ok (.pop, 1) := by decide +kernel
theorem dX5_passesOne_29 : decode cX5_passesOne 29 = .ok (.iconst 0, 1) := by decide +kernel
theorem dX5_passesOne_30 : decode cX5_passesOne 30 = .ok (.istore_n 2, 1) := by decide +kernel
theorem dX5_passesOne_31 : decode cX5_passesOne 31 = .ok (.iload_n 2, 1) := by decide +kernel
theorem dX5_passesOne_32 : decode cX5_passesOne 32 = .ok (.aload_n 0, 1) := by decide +kernel
theorem dX5_passesOne_33 : decode cX5_passesOne 33 = .ok (.getfield 74, 3) := by decide +kernel
theorem dX5_passesOne_36 : decode cX5_passesOne 36 = .ok (.if_icmp .ge 51, 3) := by decide +kernel
theorem dX5_passesOne_39 : decode cX5_passesOne 39 = .ok (.aload_n 0, 1) := by decide +kernel
theorem dX5_passesOne_40 : decode cX5_passesOne 40 = .ok (.getfield 52, 3) := by decide +kernel
theorem dX5_passesOne_43 : decode cX5_passesOne 43 = .ok (.iload_n 2, 1) := by decide +kernel
theorem dX5_passesOne_44 : decode cX5_passesOne 44 = .ok (.caload, 1) := by decide +kernel
theorem dX5_passesOne_45 : decode cX5_passesOne 45 = .ok (.bipush 119, 2) := by decide +kernel
theorem dX5_passesOne_47 : decode cX5_passesOne 47 = .ok (.if_icmp .ne 34, 3) := by decide +kernel
theorem dX5_passesOne_50 : decode cX5_passesOne 50 = .ok (.aload_n 0, 1) := by decide +kernel
theorem dX5_passesOne_51 : decode cX5_passesOne 51 = .ok (.getfield 43, 3) := by decide +kernel
theorem dX5_passesOne_54 : decode cX5_passesOne 54 = .ok (.iload_n 2, 1) := by decide +kernel
theorem dX5_passesOne_55 : decode cX5_passesOne 55 = .ok (.iaload, 1) := by decide +kernel
theorem dX5_passesOne_56 : decode cX5_passesOne 56 = .ok (.ifCond .ge 25, 3) := by decide +kernel
theorem dX5_passesOne_59 : decode cX5_passesOne 59 = .ok (.aload_n 0, 1) := by decide +kernel
theorem dX5_passesOne_60 : decode cX5_passesOne 60 = .ok (.getfield 119, 3) := by decide +kernel
theorem dX5_passesOne_63 : decode cX5_passesOne 63 = .ok (.ifCond .eq 13, 3) := by decide +kernel
theorem dX5_passesOne_66 : decode cX5_passesOne 66 = .ok (.aload_n 0, 1) := by decide +kernel
theorem dX5_passesOne_67 : decode cX5_passesOne 67 = .ok (.getfield 37, 3) := by decide +kernel
theorem dX5_passesOne_70 : decode cX5_passesOne 70 = .ok (.iload_n 2, 1) := by decide +kernel
theorem dX5_passesOne_71 : decode cX5_passesOne 71 = .ok (.iaload, 1) := by decide +kernel
theorem dX5_passesOne_72 : decode cX5_passesOne 72 = .ok (.iload_n 1, 1) := by decide +kernel
theorem dX5_passesOne_73 : decode cX5_passesOne 73 = .ok (.if_icmp .ne 8, 3) := by decide +kernel
theorem dX5_passesOne_76 : decode cX5_passesOne 76 = .ok (.aload_n 0, 1) := by decide +kernel
theorem dX5_passesOne_77 : decode cX5_passesOne 77 = .ok (.iload_n 2, 1) := by decide +kernel
theorem dX5_passesOne_78 : decode cX5_passesOne 78 = .ok (.invokevirtual 123, 3) := by decide +kernel
theorem dX5_passesOne_81 : decode cX5_passesOne 81 = .ok (.iinc 2 1, 3) := by decide +kernel
theorem dX5_passesOne_84 : decode cX5_passesOne 84 = .ok (.goto (-53), 3) := by decide +kernel
theorem dX5_passesOne_87 : decode cX5_passesOne 87 = .ok (.iconst 0, 1) := by decide +kernel
theorem dX5_passesOne_88 : decode cX5_passesOne 88 = .ok (.istore_n 2, 1) := by decide +kernel
theorem dX5_passesOne_89 : decode cX5_passesOne 89 = .ok (.iload_n 2, 1) := by decide +kernel
theorem dX5_passesOne_90 : decode cX5_passesOne 90 = .ok (.aload_n 0, 1) := by decide +kernel
theorem dX5_passesOne_91 : decode cX5_passesOne 91 = .ok (.getfield 77, 3) := by decide +kernel
theorem dX5_passesOne_94 : decode cX5_passesOne 94 = .ok (.if_icmp .ge 14, 3) := by decide +kernel
theorem dX5_passesOne_97 : decode cX5_passesOne 97 = .ok (.aload_n 0, 1) := by decide +kernel
theorem dX5_passesOne_98 : decode cX5_passesOne 98 = .ok (.iload_n 2, 1) := by decide +kernel
theorem dX5_passesOne_99 : decode cX5_passesOne 99 = .ok (.invokevirtual 182, 3) := by decide +kernel
theorem dX5_passesOne_102 : decode cX5_passesOne 102 = .ok (.iinc 2 1, 3) := by decide +kernel
theorem dX5_passesOne_105 : decode cX5_passesOne 105 = .ok (.goto (-16), 3) := by decide +kernel
theorem dX5_passesOne_108 : decode cX5_passesOne 108 = .ok (.aload_n 0, 1) := by decide +kernel
theorem dX5_passesOne_109 : decode cX5_passesOne 109 = .ok (.dup, 1) := by decide +kernel
theorem dX5_passesOne_110 : decode cX5_passesOne 110 = .ok (.getfield 91, 3) := by decide +kernel
theorem dX5_passesOne_113 : decode cX5_passesOne 113 = .ok (.iconst 1, 1) := by decide +kernel
theorem dX5_passesOne_114 : decode cX5_passesOne 114 = .ok (.iadd, 1) := by decide +kernel
theorem dX5_passesOne_115 : decode cX5_passesOne 115 = .ok (.putfield 91, 3) := by decide +kernel
theorem dX5_passesOne_118 : decode cX5_passesOne 118 = .ok (.aload_n 0, 1) := by decide +kernel
theorem dX5_passesOne_119 : decode cX5_passesOne 119 = .ok (.aload_n 0, 1) := by decide +kernel
theorem dX5_passesOne_120 : decode cX5_passesOne 120 = .ok (.getfield 119, 3) := by decide +kernel
theorem dX5_passesOne_123 : decode cX5_passesOne 123 = .ok (.ifCond .eq 14, 3) := by decide +kernel
theorem dX5_passesOne_126 : decode cX5_passesOne 126 = .ok (.aload_n 0, 1) := by decide +kernel
theorem dX5_passesOne_127 : decode cX5_passesOne 127 = .ok (.invokevirtual 185, 3) := by decide +kernel
theorem dX5_passesOne_130 : decode cX5_passesOne 130 = .ok (.ifCond .le 7, 3) := by decide +kernel
theorem dX5_passesOne_133 : decode cX5_passesOne 133 = .ok (.iconst 1, 1) := by decide +kernel
theorem dX5_passesOne_134 : decode cX5_passesOne 134 = .ok (.goto 4, 3) := by decide +kernel
theorem dX5_passesOne_137 : decode cX5_passesOne 137 = .ok (.iconst 0, 1) := by decide +kernel
theorem dX5_passesOne_138 : decode cX5_passesOne 138 = .ok (.putfield 119, 3) := by decide +kernel
theorem dX5_passesOne_141 : decode cX5_passesOne 141 = .ok (.return_, 1) := by decide +kernel
theorem dX5_pass_0 : decode cX5_pass 0 = .ok (.aload_n 0, 1) := by decide +kernel
theorem dX5_pass_1 : decode cX5_pass 1 = .ok (.iconst 0, 1) := by decide +kernel
theorem dX5_pass_2 : decode cX5_pass 2 = .ok (.putfield 1, 3) := by decide +kernel
theorem dX5_pass_5 : decode cX5_pass 5 = .ok (.iload_n 1, 1) := by decide +kernel
theorem dX5_pass_6 : decode cX5_pass 6 = .ok (.iconst 1, 1) := by decide +kernel
theorem dX5_pass_7 : decode cX5_pass 7 = .ok (.bipush 100, 2) := by decide +kernel
theorem dX5_pass_9 : decode cX5_pass 9 = .ok (.invokestatic 7, 3) := by decide +kernel
theorem dX5_pass_12 : decode cX5_pass 12 = .ok (.ifCond .ne 9, 3) := by decide +kernel
theorem dX5_pass_15 : decode cX5_pass 15 = .ok (.aload_n 0, 1) := by decide +kernel
theorem dX5_pass_16 : decode cX5_pass 16 = .ok (.iconst 1, 1) := by decide +kernel
theorem dX5_pass_17 : decode cX5_pass 17 = .ok (.invokevirtual 80, 3) := by decide +kernel
theorem dX5_pass_20 : decode cX5_pass 20 = .ok (.ireturn, 1) := by decide +kernel
theorem dX5_pass_21 : decode cX5_pass 21 = .ok (.aload_n 0, 1) := by decide +kernel
theorem dX5_pass_22 : decode cX5_pass 22 = .ok (.getfield 113, 3) := by decide +kernel
theorem dX5_pass_25 : decode cX5_pass 25 = .ok (.istore_n 2, 1) := by decide +kernel
theorem dX5_pass_26 : decode cX5_pass 26 = .ok (.iconst 0, 1) := by decide +kernel
theorem dX5_pass_27 : decode cX5_pass 27 = .ok (.istore_n 3, 1) := by decide +kernel
theorem dX5_pass_28 : decode cX5_pass 28 = .ok (.iload_n 3, 1) := by decide +kernel
theorem dX5_pass_29 : decode cX5_pass 29 = .ok (.iload_n 1, 1) := by decide +kernel
theorem dX5_pass_30 : decode cX5_pass 30 = .ok (.if_icmp .ge 13, 3) := by decide +kernel
theorem dX5_pass_33 : decode cX5_pass 33 = .ok (.aload_n 0, 1) := by decide +kernel
theorem dX5_pass_34 : decode cX5_pass 34 = .ok (.invokevirtual 188, 3) := by decide +kernel
theorem dX5_pass_37 : decode cX5_pass 37 = .ok (.iinc 3 1, 3) := by decide +kernel
theorem dX5_pass_40 : decode cX5_pass 40 = .ok (.goto (-12), 3) := by decide +kernel
theorem dX5_pass_43 : decode cX5_pass 43 = .ok (.aload_n 0, 1) := by decide +kernel
theorem dX5_pass_44 : decode cX5_pass 44 = .ok (.getfield 113, 3) := by decide +kernel
theorem dX5_pass_47 : decode cX5_pass 47 = .ok (.iload_n 2, 1) := by decide +kernel
theorem dX5_pass_48 : decode cX5_pass 48 = .ok (.isub, 1) := by decide +kernel
theorem dX5_pass_49 : decode cX5_pass 49 = .ok (.ireturn, 1) := by decide +kernel
theorem dX5_time_0 : decode cX5_time 0 = .ok (.aload_n 0, 1) := by decide +kernel
theorem dX5_time_1 : decode cX5_time 1 = .ok (.iconst 0, 1) := by decide +kernel
theorem dX5_time_2 : decode cX5_time 2 = .ok (.putfield 1, 3) := by decide +kernel
theorem dX5_time_5 : decode cX5_time 5 = .ok (.aload_n 0, 1) := by decide +kernel
theorem dX5_time_6 : decode cX5_time 6 = .ok (.getfield 91, 3) := by decide +kernel
theorem dX5_time_9 : decode cX5_time 9 = .ok (.ireturn, 1) := by decide +kernel
theorem dX5_alarm_0 : decode cX5_alarm 0 = .ok (.aload_n 0, 1) := by decide +kernel
theorem dX5_alarm_1 : decode cX5_alarm 1 = .ok (.iconst 0, 1) := by decide +kernel
theorem dX5_alarm_2 : decode cX5_alarm 2 = .ok (.putfield 1, 3) := by decide +kernel
theorem dX5_alarm_5 : decode cX5_alarm 5 = .ok (.iload_n 1, 1) := by decide +kernel
theorem dX5_alarm_6 : decode cX5_alarm 6 = .ok (.invokestatic 94, 3) := by decide +kernel
theorem dX5_alarm_9 : decode cX5_alarm 9 = .ok (.ifCond .ne 9, 3) := by decide +kernel
theorem dX5_alarm_12 : decode cX5_alarm 12 = .ok (.aload_n 0, 1) := by decide +kernel
theorem dX5_alarm_13 : decode cX5_alarm 13 = .ok (.iconst 1, 1) := by decide +kernel
theorem dX5_alarm_14 : decode cX5_alarm 14 = .ok (.invokevirtual 80, 3) := by decide +kernel
theorem dX5_alarm_17 : decode cX5_alarm 17 = .ok (.ireturn, 1) := by decide +kernel
theorem dX5_alarm_18 : decode cX5_alarm 18 = .ok (.aload_n 0, 1) := by decide +kernel
theorem dX5_alarm_19 : decode cX5_alarm 19 = .ok (.getfield 119, 3) := by decide +kernel
theorem dX5_alarm_22 : decode cX5_alarm 22 = .ok (.ifCond .ne 10, 3) := by decide +kernel
theorem dX5_alarm_25 : decode cX5_alarm 25 = .ok (.aload_n 0, 1) := by decide +kernel
theorem dX5_alarm_26 : decode cX5_alarm 26 = .ok (.invokevirtual 185, 3) := by decide +kernel
theorem dX5_alarm_29 : decode cX5_alarm 29 = .ok (.ifCond .ne 9, 3) := by decide +kernel
theorem dX5_alarm_32 : decode cX5_alarm 32 = .ok (.aload_n 0, 1) := by decide +kernel
theorem dX5_alarm_33 : decode cX5_alarm 33 = .ok (.iconst 2, 1) := by decide +kernel
theorem dX5_alarm_34 : decode cX5_alarm 34 = .ok (.invokevirtual 80, 3) := by decide +kernel
theorem dX5_alarm_37 : decode cX5_alarm 37 = .ok (.ireturn, 1) := by decide +kernel
theorem dX5_alarm_38 : decode cX5_alarm 38 = .ok (.aload_n 0, 1) := by decide +kernel
theorem dX5_alarm_39 : decode cX5_alarm 39 = .ok (.iconst 1, 1) := by decide +kernel
theorem dX5_alarm_40 : decode cX5_alarm 40 = .ok (.putfield 119, 3) := by decide +kernel
theorem dX5_alarm_43 : decode cX5_alarm 43 = .ok (.aload_n 0, 1) := by decide +kernel
theorem dX5_alarm_44 : decode cX5_alarm 44 = .ok (.iload_n 1, 1) := by decide +kernel
theorem dX5_alarm_45 : decode cX5_alarm 45 = .ok (.putfield 172, 3) := by decide +kernel
theorem dX5_alarm_48 : decode cX5_alarm 48 = .ok (.aload_n 0, 1) := by decide +kernel
theorem dX5_alarm_49 : decode cX5_alarm 49 = .ok (.iconst (-1), 1) := by decide +kernel
theorem dX5_alarm_50 : decode cX5_alarm 50 = .ok (.invokevirtual 142, 3) := by decide +kernel
theorem dX5_alarm_53 : decode cX5_alarm 53 = .ok (.pop, 1) := by decide +kernel
theorem dX5_alarm_54 : decode cX5_alarm 54 = .ok (.iconst 0, 1) := by decide +kernel
theorem dX5_alarm_55 : decode cX5_alarm 55 = .ok (.istore_n 2, 1) := by decide +kernel
theorem dX5_alarm_56 : decode cX5_alarm 56 = .ok (.iload_n 2, 1) := by decide +kernel
theorem dX5_alarm_57 : decode cX5_alarm 57 = .ok (.aload_n 0, 1) := by decide +kernel
theorem dX5_alarm_58 : decode cX5_alarm 58 = .ok (.getfield 74, 3) := by decide +kernel
theorem dX5_alarm_61 : decode cX5_alarm 61 = .ok (.if_icmp .ge 56, 3) := by decide +kernel
theorem dX5_alarm_64 : decode cX5_alarm 64 = .ok (.aload_n 0, 1) := by decide +kernel
theorem dX5_alarm_65 : decode cX5_alarm 65 = .ok (.getfield 52, 3) := by decide +kernel
theorem dX5_alarm_68 : decode cX5_alarm 68 = .ok (.iload_n 2, 1) := by decide +kernel
theorem dX5_alarm_69 : decode cX5_alarm 69 = .ok (.caload, 1) := by decide +kernel
theorem dX5_alarm_70 : decode cX5_alarm 70 = .ok (.bipush 100, 2) := by decide +kernel
theorem dX5_alarm_72 : decode cX5_alarm 72 = .ok (.if_icmp .ne 6, 3) := by decide +kernel
theorem dX5_alarm_75 : decode cX5_alarm 75 = .ok (.goto 36, 3) := by decide +kernel
theorem dX5_alarm_78 : decode cX5_alarm 78 = .ok (.aload_n 0, 1) := by decide +kernel
theorem dX5_alarm_79 : decode cX5_alarm 79 = .ok (.getfield 40, 3) := by decide +kernel
theorem dX5_alarm_82 : decode cX5_alarm 82 = .ok (.iload_n 2, 1) := by decide +kernel
theorem dX5_alarm_83 : decode cX5_alarm 83 = .ok (.iconst 0, 1) := by decide +kernel
theorem dX5_alarm_84 : decode cX5_alarm 84 = .ok (.iastore, 1) := by decide +kernel
theorem dX5_alarm_85 : decode cX5_alarm 85 = .ok (.aload_n 0, 1) := by decide +kernel
theorem dX5_alarm_86 : decode cX5_alarm 86 = .ok (.getfield 52, 3) := by decide +kernel
theorem dX5_alarm_89 : decode cX5_alarm 89 = .ok (.iload_n 2, 1) := by decide +kernel
theorem dX5_alarm_90 : decode cX5_alarm 90 = .ok (.caload, 1) := by decide +kernel
theorem dX5_alarm_91 : decode cX5_alarm 91 = .ok (.bipush 119, 2) := by decide +kernel
theorem dX5_alarm_93 : decode cX5_alarm 93 = .ok (.if_icmp .ne 18, 3) := by decide +kernel
theorem dX5_alarm_96 : decode cX5_alarm 96 = .ok (.aload_n 0, 1) := by decide +kernel
theorem dX5_alarm_97 : decode cX5_alarm 97 = .ok (.getfield 37, 3) := by decide +kernel
theorem dX5_alarm_100 : decode cX5_alarm 100 = .ok (.iload_n 2, 1) := by decide +kernel
theorem dX5_alarm_101 : decode cX5_alarm 101 = .ok (.iaload, 1) := by decide +kernel
theorem dX5_alarm_102 : decode cX5_alarm 102 = .ok (.ifCond .ne 9, 3) := by decide +kernel
theorem dX5_alarm_105 : decode cX5_alarm 105 = .ok (.aload_n 0, 1) := by decide +kernel
theorem dX5_alarm_106 : decode cX5_alarm 106 = .ok (.iload_n 2, 1) := by decide +kernel
theorem dX5_alarm_107 : decode cX5_alarm 107 = .ok (.iconst 0, 1) := by decide +kernel
theorem dX5_alarm_108 : decode cX5_alarm 108 = .ok (.invokevirtual 151, 3) := by decide +kernel
theorem dX5_alarm_111 : decode cX5_alarm 111 = .ok (.iinc 2 1, 3) := by decide +kernel
theorem dX5_alarm_114 : decode cX5_alarm 114 = .ok (.goto (-58), 3) := by decide +kernel
theorem dX5_alarm_117 : decode cX5_alarm 117 = .ok (.aload_n 0, 1) := by decide +kernel
theorem dX5_alarm_118 : decode cX5_alarm 118 = .ok (.invokevirtual 185, 3) := by decide +kernel
theorem dX5_alarm_121 : decode cX5_alarm 121 = .ok (.ireturn, 1) := by decide +kernel
theorem dX5_isAlarm_0 : decode cX5_isAlarm 0 = .ok (.aload_n 0, 1) := by decide +kernel
theorem dX5_isAlarm_1 : decode cX5_isAlarm 1 = .ok (.iconst 0, 1) := by decide +kernel
theorem dX5_isAlarm_2 : decode cX5_isAlarm 2 = .ok (.putfield 1, 3) := by decide +kernel
theorem dX5_isAlarm_5 : decode cX5_isAlarm 5 = .ok (.aload_n 0, 1) := by decide +kernel
theorem dX5_isAlarm_6 : decode cX5_isAlarm 6 = .ok (.getfield 119, 3) := by decide +kernel
theorem dX5_isAlarm_9 : decode cX5_isAlarm 9 = .ok (.ireturn, 1) := by decide +kernel
theorem dX5_turn_0 : decode cX5_turn 0 = .ok (.aload_n 0, 1) := by decide +kernel
theorem dX5_turn_1 : decode cX5_turn 1 = .ok (.iconst 0, 1) := by decide +kernel
theorem dX5_turn_2 : decode cX5_turn 2 = .ok (.putfield 1, 3) := by decide +kernel
theorem dX5_turn_5 : decode cX5_turn 5 = .ok (.aload_n 0, 1) := by decide +kernel
theorem dX5_turn_6 : decode cX5_turn 6 = .ok (.getfield 119, 3) := by decide +kernel
theorem dX5_turn_9 : decode cX5_turn 9 = .ok (.ifCond .eq 10, 3) := by decide +kernel
theorem dX5_turn_12 : decode cX5_turn 12 = .ok (.aload_n 0, 1) := by decide +kernel
theorem dX5_turn_13 : decode cX5_turn 13 = .ok (.invokevirtual 178, 3) := by decide +kernel
theorem dX5_turn_16 : decode cX5_turn 16 = .ok (.goto 4, 3) := by decide +kernel
theorem dX5_turn_19 : decode cX5_turn 19 = .ok (.iconst (-1), 1) := by decide +kernel
theorem dX5_turn_20 : decode cX5_turn 20 = .ok (.istore_n 1, 1) := by decide +kernel
theorem dX5_turn_21 : decode cX5_turn 21 = .ok (.iload_n 1, 1) := by decide +kernel
theorem dX5_turn_22 : decode cX5_turn 22 = .ok (.ifCond .ge 11, 3) := by decide +kernel
theorem dX5_turn_25 : decode cX5_turn 25 = .ok (.aload_n 0, 1) := by decide +kernel
theorem dX5_turn_26 : decode cX5_turn 26 = .ok (.iconst 1, 1) := by decide +kernel
theorem dX5_turn_27 : decode cX5_turn 27 = .ok (.invokevirtual 80, 3) := by decide +kernel
theorem dX5_turn_30 : decode cX5_turn 30 = .ok (.goto 4, 3) := by decide +kernel
theorem dX5_turn_33 : decode cX5_turn 33 = .ok (.iload_n 1, 1) := by decide +kernel
theorem dX5_turn_34 : decode cX5_turn 34 = .ok (.ireturn, 1) := by decide +kernel
theorem dX5_opened_0 : decode cX5_opened 0 = .ok (.aload_n 0, 1) := by decide +kernel
theorem dX5_opened_1 : decode cX5_opened 1 = .ok (.iconst 0, 1) := by decide +kernel
theorem dX5_opened_2 : decode cX5_opened 2 = .ok (.putfield 1, 3) := by decide +kernel
theorem dX5_opened_5 : decode cX5_opened 5 = .ok (.aload_n 0, 1) := by decide +kernel
theorem dX5_opened_6 : decode cX5_opened 6 = .ok (.getfield 166, 3) := by decide +kernel
theorem dX5_opened_9 : decode cX5_opened 9 = .ok (.ireturn, 1) := by decide +kernel
theorem dX5_refused_0 : decode cX5_refused 0 = .ok (.aload_n 0, 1) := by decide +kernel
theorem dX5_refused_1 : decode cX5_refused 1 = .ok (.iconst 0, 1) := by decide +kernel
theorem dX5_refused_2 : decode cX5_refused 2 = .ok (.putfield 1, 3) := by decide +kernel
theorem dX5_refused_5 : decode cX5_refused 5 = .ok (.aload_n 0, 1) := by decide +kernel
theorem dX5_refused_6 : decode cX5_refused 6 = .ok (.getfield 155, 3) := by decide +kernel
theorem dX5_refused_9 : decode cX5_refused 9 = .ok (.ireturn, 1) := by decide +kernel
theorem dX5_doneShare_0 : decode cX5_doneShare 0 = .ok (.aload_n 0, 1) := by decide +kernel
theorem dX5_doneShare_1 : decode cX5_doneShare 1 = .ok (.iconst 0, 1) := by decide +kernel
theorem dX5_doneShare_2 : decode cX5_doneShare 2 = .ok (.putfield 1, 3) := by decide +kernel
theorem dX5_doneShare_5 : decode cX5_doneShare 5 = .ok (.aload_n 0, 1) := by decide +kernel
theorem dX5_doneShare_6 : decode cX5_doneShare 6 = .ok (.getfield 74, 3) := by decide +kernel
theorem dX5_doneShare_9 : decode cX5_doneShare 9 = .ok (.ifCond .ne 12, 3) := by decide +kernel
theorem dX5_doneShare_12 : decode cX5_doneShare 12 = .ok (.aload_n 0, 1) := by decide +kernel
theorem dX5_doneShare_13 : decode cX5_doneShare 13 = .ok (.iconst 1, 1) := by decide +kernel
theorem dX5_doneShare_14 : decode cX5_doneShare 14 = .ok (.invokevirtual 80, 3) := by decide +kernel
theorem dX5_doneShare_17 : decode cX5_doneShare 17 = .ok (.i2f, 1) := by decide +kernel
theorem dX5_doneShare_18 : decode cX5_doneShare 18 = .ok (.goto 14, 3) := by decide +kernel
theorem dX5_doneShare_21 : decode cX5_doneShare 21 = .ok (.aload_n 0, 1) := by decide +kernel
theorem dX5_doneShare_22 : decode cX5_doneShare 22 = .ok (.getfield 113, 3) := by decide +kernel
theorem dX5_doneShare_25 : decode cX5_doneShare 25 = .ok (.i2f, 1) := by decide +kernel
theorem dX5_doneShare_26 : decode cX5_doneShare 26 = .ok (.aload_n 0, 1) := by decide +kernel
theorem dX5_doneShare_27 : decode cX5_doneShare 27 = .ok (.getfield 74, 3) := by decide +kernel
theorem dX5_doneShare_30 : decode cX5_doneShare 30 = .ok (.i2f, 1) := by decide +kernel
theorem dX5_doneShare_31 : decode cX5_doneShare 31 = .ok (.fdiv, 1) := by decide +kernel
theorem dX5_doneShare_32 : decode cX5_doneShare 32 = .ok (.freturn, 1) := by decide +kernel
theorem dX5_meanWait_0 : decode cX5_meanWait 0 = .ok (.aload_n 0, 1) := by decide +kernel
theorem dX5_meanWait_1 : decode cX5_meanWait 1 = .ok (.iconst 0, 1) := by decide +kernel
theorem dX5_meanWait_2 : decode cX5_meanWait 2 = .ok (.putfield 1, 3) := by decide +kernel
theorem dX5_meanWait_5 : decode cX5_meanWait 5 = .ok (.iconst 0, 1) := by decide +kernel
theorem dX5_meanWait_6 : decode cX5_meanWait 6 = .ok (.istore_n 1, 1) := by decide +kernel
theorem dX5_meanWait_7 : decode cX5_meanWait 7 = .ok (.iconst 0, 1) := by decide +kernel
theorem dX5_meanWait_8 : decode cX5_meanWait 8 = .ok (.istore_n 2, 1) := by decide +kernel
theorem dX5_meanWait_9 : decode cX5_meanWait 9 = .ok (.iload_n 2, 1) := by decide +kernel
theorem dX5_meanWait_10 : decode cX5_meanWait 10 = .ok (.aload_n 0, 1) := by decide +kernel
theorem dX5_meanWait_11 : decode cX5_meanWait 11 = .ok (.getfield 74, 3) := by decide +kernel
theorem dX5_meanWait_14 : decode cX5_meanWait 14 = .ok (.if_icmp .ge 17, 3) := by decide +kernel
theorem dX5_meanWait_17 : decode cX5_meanWait 17 = .ok (.iload_n 1, 1) := by decide +kernel
theorem dX5_meanWait_18 : decode cX5_meanWait 18 = .ok (.aload_n 0, 1) := by decide +kernel
theorem dX5_meanWait_19 : decode cX5_meanWait 19 = .ok (.iload_n 2, 1) := by decide +kernel
theorem dX5_meanWait_20 : decode cX5_meanWait 20 = .ok (.invokevirtual 133, 3) := by decide +kernel
theorem dX5_meanWait_23 : decode cX5_meanWait 23 = .ok (.iadd, 1) := by decide +kernel
theorem dX5_meanWait_24 : decode cX5_meanWait 24 = .ok (.istore_n 1, 1) := by decide +kernel
theorem dX5_meanWait_25 : decode cX5_meanWait 25 = .ok (.iinc 2 1, 3) := by decide +kernel
theorem dX5_meanWait_28 : decode cX5_meanWait 28 = .ok (.goto (-19), 3) := by decide +kernel
theorem dX5_meanWait_31 : decode cX5_meanWait 31 = .ok (.aload_n 0, 1) := by decide +kernel
theorem dX5_meanWait_32 : decode cX5_meanWait 32 = .ok (.getfield 74, 3) := by decide +kernel
theorem dX5_meanWait_35 : decode cX5_meanWait 35 = .ok (.ifCond .ne 12, 3) := by decide +kernel
theorem dX5_meanWait_38 : decode cX5_meanWait 38 = .ok (.aload_n 0, 1) := by decide +kernel
theorem dX5_meanWait_39 : decode cX5_meanWait 39 = .ok (.iconst 1, 1) := by decide +kernel
theorem dX5_meanWait_40 : decode cX5_meanWait 40 = .ok (.invokevirtual 80, 3) := by decide +kernel
theorem dX5_meanWait_43 : decode cX5_meanWait 43 = .ok (.i2d, 1) := by decide +kernel
theorem dX5_meanWait_44 : decode cX5_meanWait 44 = .ok (.goto 11, 3) := by decide +kernel
theorem dX5_meanWait_47 : decode cX5_meanWait 47 = .ok (.iload_n 1, 1) := by decide +kernel
theorem dX5_meanWait_48 : decode cX5_meanWait 48 = .ok (.i2d, 1) := by decide +kernel
theorem dX5_meanWait_49 : decode cX5_meanWait 49 = .ok (.aload_n 0, 1) := by decide +kernel
theorem dX5_meanWait_50 : decode cX5_meanWait 50 = .ok (.getfield 74, 3) := by decide +kernel
theorem dX5_meanWait_53 : decode cX5_meanWait 53 = .ok (.i2d, 1) := by decide +kernel
theorem dX5_meanWait_54 : decode cX5_meanWait 54 = .ok (.ddiv, 1) := by decide +kernel
theorem dX5_meanWait_55 : decode cX5_meanWait 55 = .ok (.dreturn, 1) := by decide +kernel
