theorem dX0_init_0 : decode cX0_init 0 = .ok (.aload_n 0, 1) := by decide +kernel
theorem dX0_init_1 : decode cX0_init 1 = .ok (.invokespecial 3, 3) := by decide +kernel
theorem dX0_init_4 : decode cX0_init 4 = .ok (.aload_n 0, 1) := by decide +kernel
theorem dX0_init_5 : decode cX0_init 5 = .ok (.bipush 20, 2) := by decide +kernel
theorem dX0_init_7 : decode cX0_init 7 = .ok (.newarray .int, 2) := by decide +kernel
theorem dX0_init_9 : decode cX0_init 9 = .ok (.putfield 9, 3) := by decide +kernel
theorem dX0_init_12 : decode cX0_init 12 = .ok (.aload_n 0, 1) := by decide +kernel
theorem dX0_init_13 : decode cX0_init 13 = .ok (.iconst (-1), 1) := by decide +kernel
theorem dX0_init_14 : decode cX0_init 14 = .ok (.putfield 15, 3) := by decide +kernel
theorem dX0_init_17 : decode cX0_init 17 = .ok (.aload_n 0, 1) := by decide +kernel
theorem dX0_init_18 : decode cX0_init 18 = .ok (.iconst (-1), 1) := by decide +kernel
theorem dX0_init_19 : decode cX0_init 19 = .ok (.putfield 19, 3) := by decide +kernel
theorem dX0_init_22 : decode cX0_init 22 = .ok (.aload_n 0, 1) := by decide +kernel
theorem dX0_init_23 : decode cX0_init 23 = .ok (.iconst (-1), 1) := by decide +kernel
theorem dX0_init_24 : decode cX0_init 24 = .ok (.putfield 22, 3) := by decide +kernel
theorem dX0_init_27 : decode cX0_init 27 = .ok (.aload_n 0, 1) := by decide +kernel
theorem dX0_init_28 : decode cX0_init 28 = .ok (.iload_n 1, 1) := by decide +kernel
theorem dX0_init_29 : decode cX0_init 29 = .ok (.putfield 25, 3) := by decide +kernel
theorem dX0_init_32 : decode cX0_init 32 = .ok (.return_, 1) := by decide +kernel
theorem dX0_copyFrom_0 : decode cX0_copyFrom 0 = .ok (.aload_n 0, 1) := by decide +kernel
theorem dX0_copyFrom_1 : decode cX0_copyFrom 1 = .ok (.aload_n 1, 1) := by decide +kernel
theorem dX0_copyFrom_2 : decode cX0_copyFrom 2 = .ok (.getfield 28, 3) := by decide +kernel
theorem dX0_copyFrom_5 : decode cX0_copyFrom 5 = .ok (.putfield 28, 3) := by decide +kernel
theorem dX0_copyFrom_8 : decode cX0_copyFrom 8 = .ok (.aload_n 0, 1) := by decide +kernel
theorem dX0_copyFrom_9 : decode cX0_copyFrom 9 = .ok (.aload_n 1, 1) := by decide +kernel
theorem dX0_copyFrom_10 : decode cX0_copyFrom 10 = .ok (.getfield 31, 3) := by decide +kernel
theorem dX0_copyFrom_13 : decode cX0_copyFrom 13 = .ok (.putfield 31, 3) := by decide +kernel
theorem dX0_copyFrom_16 : decode cX0_copyFrom 16 = .ok (.aload_n 0, 1) := by decide +kernel
theorem dX0_copyFrom_17 : decode cX0_copyFrom 17 = .ok (.aload_n 1, 1) := by decide +kernel
theorem dX0_copyFrom_18 : decode cX0_copyFrom 18 = .ok (.getfield 34, 3) := by decide +kernel
theorem dX0_copyFrom_21 : decode cX0_copyFrom 21 = .ok (.putfield 34, 3) := by decide +kernel
theorem dX0_copyFrom_24 : decode cX0_copyFrom 24 = .ok (.aload_n 0, 1) := by decide +kernel
theorem dX0_copyFrom_25 : decode cX0_copyFrom 25 = .ok (.aload_n 1, 1) := by decide +kernel
theorem dX0_copyFrom_26 : decode cX0_copyFrom 26 = .ok (.getfield 37, 3) := by decide +kernel
theorem dX0_copyFrom_29 : decode cX0_copyFrom 29 = .ok (.putfield 37, 3) := by decide +kernel
theorem dX0_copyFrom_32 : decode cX0_copyFrom 32 = .ok (.aload_n 0, 1) := by decide +kernel
theorem dX0_copyFrom_33 : decode cX0_copyFrom 33 = .ok (.aload_n 1, 1) := by decide +kernel
theorem dX0_copyFrom_34 : decode cX0_copyFrom 34 = .ok (.getfield 40, 3) := by decide +kernel
theorem dX0_copyFrom_37 : decode cX0_copyFrom 37 = .ok (.putfield 40, 3) := by decide +kernel
theorem dX0_copyFrom_40 : decode cX0_copyFrom 40 = .ok (.aload_n 0, 1) := by decide +kernel
theorem dX0_copyFrom_41 : decode cX0_copyFrom 41 = .ok (.aload_n 1, 1) := by decide +kernel
theorem dX0_copyFrom_42 : decode cX0_copyFrom 42 = .ok (.getfield 43, 3) := by decide +kernel
theorem dX0_copyFrom_45 : decode cX0_copyFrom 45 = .ok (.putfield 43, 3) := by decide +kernel
theorem dX0_copyFrom_48 : decode cX0_copyFrom 48 = .ok (.aload_n 0, 1) := by decide +kernel
theorem dX0_copyFrom_49 : decode cX0_copyFrom 49 = .ok (.aload_n 1, 1) := by decide +kernel
theorem dX0_copyFrom_50 : decode cX0_copyFrom 50 = .ok (.getfield 15, 3) := by decide +kernel
theorem dX0_copyFrom_53 : decode cX0_copyFrom 53 = .ok (.putfield 15, 3) := by decide +kernel
theorem dX0_copyFrom_56 : decode cX0_copyFrom 56 = .ok (.aload_n 0, 1) := by decide +kernel
theorem dX0_copyFrom_57 : decode cX0_copyFrom 57 = .ok (.aload_n 1, 1) := by decide +kernel
theorem dX0_copyFrom_58 : decode cX0_copyFrom 58 = .ok (.getfield 46, 3) := by decide +kernel
theorem dX0_copyFrom_61 : decode cX0_copyFrom 61 = .ok (.putfield 46, 3) := by decide +kernel
theorem dX0_copyFrom_64 : decode cX0_copyFrom 64 = .ok (.aload_n 0, 1) := by decide +kernel
theorem dX0_copyFrom_65 : decode cX0_copyFrom 65 = .ok (.aload_n 1, 1) := by decide +kernel
theorem dX0_copyFrom_66 : decode cX0_copyFrom 66 = .ok (.getfield 19, 3) := by decide +kernel
theorem dX0_copyFrom_69 : decode cX0_copyFrom 69 = .ok (.putfield 19, 3) := by decide +kernel
theorem dX0_copyFrom_72 : decode cX0_copyFrom 72 = .ok (.aload_n 0, 1) := by decide +kernel
theorem dX0_copyFrom_73 : decode cX0_copyFrom 73 = .ok (.aload_n 1, 1) := by decide +kernel
theorem dX0_copyFrom_74 : decode cX0_copyFrom 74 = .ok (.getfield 22, 3) := by decide +kernel
theorem dX0_copyFrom_77 : decode cX0_copyFrom 77 = .ok (.putfield 22, 3) := by decide +kernel
theorem dX0_copyFrom_80 : decode cX0_copyFrom 80 = .ok (.aload_n 0, 1) := by decide +kernel
theorem dX0_copyFrom_81 : decode cX0_copyFrom 81 = .ok (.aload_n 1, 1) := by decide +kernel
theorem dX0_copyFrom_82 : decode cX0_copyFrom 82 = .ok (.getfield 49, 3) := by decide +kernel
theorem dX0_copyFrom_85 : decode cX0_copyFrom 85 = .ok (.putfield 49, 3) := by decide +kernel
theorem dX0_copyFrom_88 : decode cX0_copyFrom 88 = .ok (.aload_n 1, 1) := by decide +kernel
theorem dX0_copyFrom_89 : decode cX0_copyFrom 89 = .ok (.getfield 9, 3) := by decide +kernel
theorem dX0_copyFrom_92 : decode cX0_copyFrom 92 = .ok (.iconst 0, 1) := by decide +kernel
theorem dX0_copyFrom_93 : decode cX0_copyFrom 93 = .ok (.aload_n 0, 1) := by decide +kernel
theorem dX0_copyFrom_94 : decode cX0_copyFrom 94 = .ok (.getfield 9, 3) := by decide +kernel
theorem dX0_copyFrom_97 : decode cX0_copyFrom 97 = .ok (.iconst 0, 1) := by decide +kernel
theorem dX0_copyFrom_98 : decode cX0_copyFrom 98 = .ok (.aload_n 1, 1) := by decide +kernel
theorem dX0_copyFrom_99 : decode cX0_copyFrom 99 = .ok (.getfield 9, 3) := by decide +kernel
theorem dX0_copyFrom_102 : decode cX0_copyFrom 102 = .ok (.arraylength, 1) := by decide +kernel
theorem dX0_copyFrom_103 : decode cX0_copyFrom 103 = .ok (.aload_n 0, 1) := by decide +kernel
theorem dX0_copyFrom_104 : decode cX0_copyFrom 104 = .ok (.getfield 9, 3) := by decide +kernel
theorem dX0_copyFrom_107 : decode cX0_copyFrom 107 = .ok (.arraylength, 1) := by decide +kernel
theorem dX0_copyFrom_108 : decode cX0_copyFrom 108 = .ok (.invokestatic 52, 3) := by decide +kernel
theorem dX0_copyFrom_111 : decode cX0_copyFrom 111 = .ok (.invokestatic 58, 3) := by decide +kernel
theorem dX0_copyFrom_114 : decode cX0_copyFrom 114 = .ok (.return_, 1) := by decide +kernel
theorem dX0_begin_0 : decode cX0_begin 0 = .ok (.aload_n 0, 1) := by decide +kernel
theorem dX0_begin_1 : decode cX0_begin 1 = .ok (.iload_n 1, 1) := by decide +kernel
theorem dX0_begin_2 : decode cX0_begin 2 = .ok (.iconst 3, 1) := by decide +kernel
theorem dX0_begin_3 : decode cX0_begin 3 = .ok (.iand, 1) := by decide +kernel
theorem dX0_begin_4 : decode cX0_begin 4 = .ok (.putfield 28, 3) := by decide +kernel
theorem dX0_begin_7 : decode cX0_begin 7 = .ok (.aload_n 0, 1) := by decide +kernel
theorem dX0_begin_8 : decode cX0_begin 8 = .ok (.iload_n 1, 1) := by decide +kernel
theorem dX0_begin_9 : decode cX0_begin 9 = .ok (.iconst 2, 1) := by decide +kernel
theorem dX0_begin_10 : decode cX0_begin 10 = .ok (.ishr, 1) := by decide +kernel
theorem dX0_begin_11 : decode cX0_begin 11 = .ok (.iconst 3, 1) := by decide +kernel
theorem dX0_begin_12 : decode cX0_begin 12 = .ok (.iand, 1) := by decide +kernel
theorem dX0_begin_13 : decode cX0_begin 13 = .ok (.putfield 31, 3) := by decide +kernel
theorem dX0_begin_16 : decode cX0_begin 16 = .ok (.aload_n 0, 1) := by decide +kernel
theorem dX0_begin_17 : decode cX0_begin 17 = .ok (.iload_n 1, 1) := by decide +kernel
theorem dX0_begin_18 : decode cX0_begin 18 = .ok (.iconst 4, 1) := by decide +kernel
theorem dX0_begin_19 : decode cX0_begin 19 = .ok (.ishr, 1) := by decide +kernel
theorem dX0_begin_20 : decode cX0_begin 20 = .ok (.putfield 34, 3) := by decide +kernel
theorem dX0_begin_23 : decode cX0_begin 23 = .ok (.aload_n 0, 1) := by decide +kernel
theorem dX0_begin_24 : decode cX0_begin 24 = .ok (.iload_n 2, 1) := by decide +kernel
theorem dX0_begin_25 : decode cX0_begin 25 = .ok (.putfield 37, 3) := by decide +kernel
theorem dX0_begin_28 : decode cX0_begin 28 = .ok (.aload_n 0, 1) := by decide +kernel
theorem dX0_begin_29 : decode cX0_begin 29 = .ok (.iload_n 3, 1) := by decide +kernel
theorem dX0_begin_30 : decode cX0_begin 30 = .ok (.putfield 40, 3) := by decide +kernel
theorem dX0_begin_33 : decode cX0_begin 33 = .ok (.aload_n 0, 1) := by decide +kernel
theorem dX0_begin_34 : decode cX0_begin 34 = .ok (.iload 4, 2) := by decide +kernel
theorem dX0_begin_36 : decode cX0_begin 36 = .ok (.putfield 43, 3) := by decide +kernel
theorem dX0_begin_39 : decode cX0_begin 39 = .ok (.aload_n 0, 1) := by decide +kernel
theorem dX0_begin_40 : decode cX0_begin 40 = .ok (.invokevirtual 64, 3) := by decide +kernel
theorem dX0_begin_43 : decode cX0_begin 43 = .ok (.return_, 1) := by decide +kernel
theorem dX0_reopen_0 : decode cX0_reopen 0 = .ok (.aload_n 0, 1) := by decide +kernel
theorem dX0_reopen_1 : decode cX0_reopen 1 = .ok (.iconst 0, 1) := by decide +kernel
theorem dX0_reopen_2 : decode cX0_reopen 2 = .ok (.putfield 15, 3) := by decide +kernel
theorem dX0_reopen_5 : decode cX0_reopen 5 = .ok (.aload_n 0, 1) := by decide +kernel
theorem dX0_reopen_6 : decode cX0_reopen 6 = .ok (.iconst 0, 1) := by decide +kernel
theorem dX0_reopen_7 : decode cX0_reopen 7 = .ok (.putfield 46, 3) := by decide +kernel
theorem dX0_reopen_10 : decode cX0_reopen 10 = .ok (.aload_n 0, 1) := by decide +kernel
theorem dX0_reopen_11 : decode cX0_reopen 11 = .ok (.iconst (-1), 1) := by decide +kernel
theorem dX0_reopen_12 : decode cX0_reopen 12 = .ok (.putfield 19, 3) := by decide +kernel
theorem dX0_reopen_15 : decode cX0_reopen 15 = .ok (.aload_n 0, 1) := by decide +kernel
theorem dX0_reopen_16 : decode cX0_reopen 16 = .ok (.iconst (-1), 1) := by decide +kernel
theorem dX0_reopen_17 : decode cX0_reopen 17 = .ok (.putfield 22, 3) := by decide +kernel
theorem dX0_reopen_20 : decode cX0_reopen 20 = .ok (.aload_n 0, 1) := by decide +kernel
theorem dX0_reopen_21 : decode cX0_reopen 21 = .ok (.iconst 0, 1) := by decide +kernel
theorem dX0_reopen_22 : decode cX0_reopen 22 = .ok (.putfield 49, 3) := by decide +kernel
theorem dX0_reopen_25 : decode cX0_reopen 25 = .ok (.return_, 1) := by decide +kernel
theorem dX0_hasFreePlace_0 : decode cX0_hasFreePlace 0 = .ok (.aload_n 0, 1) := by decide +kernel
theorem dX0_hasFreePlace_1 : decode cX0_hasFreePlace 1 = .ok (.getfield 15, 3) := by decide +kernel
theorem dX0_hasFreePlace_4 : decode cX0_hasFreePlace 4 = .ok (.ifCond .ne 18, 3) := by decide +kernel
theorem dX0_hasFreePlace_7 : decode cX0_hasFreePlace 7 = .ok (.aload_n 0, 1) := by decide +kernel
theorem dX0_hasFreePlace_8 : decode cX0_hasFreePlace 8 = .ok (.getfield 49, 3) := by decide +kernel
theorem dX0_hasFreePlace_11 : decode cX0_hasFreePlace 11 = .ok (.aload_n 0, 1) := by decide +kernel
theorem dX0_hasFreePlace_12 : decode cX0_hasFreePlace 12 = .ok (.getfield 40, 3) := by decide +kernel
theorem dX0_hasFreePlace_15 : decode cX0_hasFreePlace 15 = .ok (.if_icmp .ge 7, 3) := by decide +kernel
theorem dX0_hasFreePlace_18 : decode cX0_hasFreePlace 18 = .ok (.iconst 1, 1) := by decide +kernel
theorem dX0_hasFreePlace_19 : decode cX0_hasFreePlace 19 = .ok (.goto 4, 3) := by decide +kernel
theorem dX0_hasFreePlace_22 : decode cX0_hasFreePlace 22 = .ok (.iconst 0, 1) := by decide +kernel
theorem dX0_hasFreePlace_23 : decode cX0_hasFreePlace 23 = .ok (.ireturn, 1) := by decide +kernel
theorem dX0_isTooSmall_0 : decode cX0_isTooSmall 0 = .ok (.aload_n 0, 1) := by decide +kernel
theorem dX0_isTooSmall_1 : decode cX0_isTooSmall 1 = .ok (.getfield 15, 3) := by decide +kernel
theorem dX0_isTooSmall_4 : decode cX0_isTooSmall 4 = .ok (.ifCond .ne 18, 3) := by decide +kernel
theorem dX0_isTooSmall_7 : decode cX0_isTooSmall 7 = .ok (.aload_n 0, 1) := by decide +kernel
theorem dX0_isTooSmall_8 : decode cX0_isTooSmall 8 = .ok (.getfield 49, 3) := by decide +kernel
theorem dX0_isTooSmall_11 : decode cX0_isTooSmall 11 = .ok (.aload_n 0, 1) := by decide +kernel
theorem dX0_isTooSmall_12 : decode cX0_isTooSmall 12 = .ok (.getfield 37, 3) := by decide +kernel
theorem dX0_isTooSmall_15 : decode cX0_isTooSmall 15 = .ok (.if_icmp .ge 7, 3) := by decide +kernel
theorem dX0_isTooSmall_18 : decode cX0_isTooSmall 18 = .ok (.iconst 1, 1) := by decide +kernel
theorem dX0_isTooSmall_19 : decode cX0_isTooSmall 19 = .ok (.goto 4, 3) := by decide +kernel
theorem dX0_isTooSmall_22 : decode cX0_isTooSmall 22 = .ok (.iconst 0, 1) := by decide +kernel
theorem dX0_isTooSmall_23 : decode cX0_isTooSmall 23 = .ok (.ireturn, 1) := by decide +kernel
theorem dX0_canTake_0 : decode cX0_canTake 0 = .ok (.aload_n 0, 1) := by decide +kernel
theorem dX0_canTake_1 : decode cX0_canTake 1 = .ok (.getfield 15, 3) := by decide +kernel
theorem dX0_canTake_4 : decode cX0_canTake 4 = .ok (.ifCond .ne 54, 3) := by decide +kernel
theorem dX0_canTake_7 : decode cX0_canTake 7 = .ok (.aload_n 0, 1) := by decide +kernel
theorem dX0_canTake_8 : decode cX0_canTake 8 = .ok (.getfield 25, 3) := by decide +kernel
theorem dX0_canTake_11 : decode cX0_canTake 11 = .ok (.aload_n 1, 1) := by decide +kernel
theorem dX0_canTake_12 : decode cX0_canTake 12 = .ok (.getfield 25, 3) := by decide +kernel
theorem dX0_canTake_15 : decode cX0_canTake 15 = .ok (.if_icmp .eq 43, 3) := by decide +kernel
theorem dX0_canTake_18 : decode cX0_canTake 18 = .ok (.aload_n 0, 1) := by decide +kernel
theorem dX0_canTake_19 : decode cX0_canTake 19 = .ok (.getfield 28, 3) := by decide +kernel
theorem dX0_canTake_22 : decode cX0_canTake 22 = .ok (.aload_n 1, 1) := by decide +kernel
theorem dX0_canTake_23 : decode cX0_canTake 23 = .ok (.getfield 28, 3) := by decide +kernel
theorem dX0_canTake_26 : decode cX0_canTake 26 = .ok (.if_icmp .ne 32, 3) := by decide +kernel
theorem dX0_canTake_29 : decode cX0_canTake 29 = .ok (.aload_n 0, 1) := by decide +kernel
theorem dX0_canTake_30 : decode cX0_canTake 30 = .ok (.aload_n 1, 1) := by decide +kernel
theorem dX0_canTake_31 : decode cX0_canTake 31 = .ok (.invokevirtual 67, 3) := by decide +kernel
theorem dX0_canTake_34 : decode cX0_canTake 34 = .ok (.iconst 1, 1) := by decide +kernel
theorem dX0_canTake_35 : decode cX0_canTake 35 = .ok (.if_icmp .gt 23, 3) := by decide +kernel
theorem dX0_canTake_38 : decode cX0_canTake 38 = .ok (.aload_n 0, 1) := by decide +kernel
theorem dX0_canTake_39 : decode cX0_canTake 39 = .ok (.getfield 49, 3) := by decide +kernel
theorem dX0_canTake_42 : decode cX0_canTake 42 = .ok (.aload_n 1, 1) := by decide +kernel
theorem dX0_canTake_43 : decode cX0_canTake 43 = .ok (.getfield 49, 3) := by decide +kernel
theorem dX0_canTake_46 : decode cX0_canTake 46 = .ok (.iadd, 1) := by decide +kernel
theorem dX0_canTake_47 : decode cX0_canTake 47 = .ok (.aload_n 0, 1) := by decide +kernel
theorem dX0_canTake_48 : decode cX0_canTake 48 = .ok (.getfield 40, 3) := by decide +kernel
theorem dX0_canTake_51 : decode cX0_canTake 51 = .ok (.if_icmp .gt 7, 3) := by decide +kernel
theorem dX0_canTake_54 : decode cX0_canTake 54 = .ok (.iconst 1, 1) := by decide +kernel
theorem dX0_canTake_55 : decode cX0_canTake 55 = .ok (.goto 4, 3) := by decide +kernel
theorem dX0_canTake_58 : decode cX0_canTake 58 = .ok (.iconst 0, 1) := by decide +kernel
theorem dX0_canTake_59 : decode cX0_canTake 59 = .ok (.ireturn, 1) := by decide +kernel
theorem dX0_levelsFrom_0 : decode cX0_levelsFrom 0 = .ok (.aload_n 0, 1) := by decide +kernel
theorem dX0_levelsFrom_1 : decode cX0_levelsFrom 1 = .ok (.getfield 31, 3) := by decide +kernel
theorem dX0_levelsFrom_4 : decode cX0_levelsFrom 4 = .ok (.aload_n 1, 1) := by decide +kernel
theorem dX0_levelsFrom_5 : decode cX0_levelsFrom 5 = .ok (.getfield 31, 3) := by decide +kernel
theorem dX0_levelsFrom_8 : decode cX0_levelsFrom 8 = .ok (.if_icmp .le 15, 3) := by decide +kernel
theorem dX0_levelsFrom_11 : decode cX0_levelsFrom 11 = .ok (.aload_n 0, 1) := by decide +kernel
theorem dX0_levelsFrom_12 : decode cX0_levelsFrom 12 = .ok (.getfield 31, 3) := by decide +kernel
theorem dX0_levelsFrom_15 : decode cX0_levelsFrom 15 = .ok (.aload_n 1, 1) := by decide +kernel
theorem dX0_levelsFrom_16 : decode cX0_levelsFrom 16 = .ok (.getfield 31, 3) := by decide +kernel
theorem dX0_levelsFrom_19 : decode cX0_levelsFrom 19 = .ok (.isub, 1) := by decide +kernel
theorem dX0_levelsFrom_20 : decode cX0_levelsFrom 20 = .ok (.goto 12, 3) := by decide +kernel
theorem dX0_levelsFrom_23 : decode cX0_levelsFrom 23 = .ok (.aload_n 1, 1) := by decide +kernel
theorem dX0_levelsFrom_24 : decode cX0_levelsFrom 24 = .ok (.getfield 31, 3) := by decide +kernel
theorem dX0_levelsFrom_27 : decode cX0_levelsFrom 27 = .ok (.aload_n 0, 1) := by decide +kernel
theorem dX0_levelsFrom_28 : decode cX0_levelsFrom 28 = .ok (.getfield 31, 3) := by decide +kernel
theorem dX0_levelsFrom_31 : decode cX0_levelsFrom 31 = .ok (.isub, 1) := by decide +kernel
theorem dX0_levelsFrom_32 : decode cX0_levelsFrom 32 = .ok (.ireturn, 1) := by decide +kernel
theorem dX0_memberAt_0 : decode cX0_memberAt 0 = .ok (.iload_n 1, 1) := by decide +kernel
theorem dX0_memberAt_1 : decode cX0_memberAt 1 = .ok (.ifCond .lt 29, 3) := by decide +kernel
theorem dX0_memberAt_4 : decode cX0_memberAt 4 = .ok (.iload_n 1, 1) := by decide +kernel
theorem dX0_memberAt_5 : decode cX0_memberAt 5 = .ok (.aload_n 0, 1) := by decide +kernel
theorem dX0_memberAt_6 : decode cX0_memberAt 6 = .ok (.getfield 49, 3) := by decide +kernel
theorem dX0_memberAt_9 : decode cX0_memberAt 9 = .ok (.if_icmp .ge 21, 3) := by decide +kernel
theorem dX0_memberAt_12 : decode cX0_memberAt 12 = .ok (.iload_n 1, 1) := by decide +kernel
theorem dX0_memberAt_13 : decode cX0_memberAt 13 = .ok (.aload_n 0, 1) := by decide +kernel
theorem dX0_memberAt_14 : decode cX0_memberAt 14 = .ok (.getfield 9, 3) := by decide +kernel
theorem dX0_memberAt_17 : decode cX0_memberAt 17 = .ok (.arraylength, 1) := by decide +kernel
theorem dX0_memberAt_18 : decode cX0_memberAt 18 = .ok (.if_icmp .ge 12, 3) := by decide +kernel
theorem dX0_memberAt_21 : decode cX0_memberAt 21 = .ok (.aload_n 0, 1) := by decide +kernel
theorem dX0_memberAt_22 : decode cX0_memberAt 22 = .ok (.getfield 9, 3) := by decide +kernel
theorem dX0_memberAt_25 : decode cX0_memberAt 25 = .ok (.iload_n 1, 1) := by decide +kernel
theorem dX0_memberAt_26 : decode cX0_memberAt 26 = .ok (.iaload, 1) := by decide +kernel
theorem dX0_memberAt_27 : decode cX0_memberAt 27 = .ok (.goto 4, 3) := by decide +kernel
theorem dX0_memberAt_30 : decode cX0_memberAt 30 = .ok (.iconst (-1), 1) := by decide +kernel
theorem dX0_memberAt_31 : decode cX0_memberAt 31 = .ok (.ireturn, 1) := by decide +kernel
theorem dX0_add_0 : decode cX0_add 0 = .ok (.aload_n 0, 1) := by decide +kernel
theorem dX0_add_1 : decode cX0_add 1 = .ok (.getfield 49, 3) := by decide +kernel
theorem dX0_add_4 : decode cX0_add 4 = .ok (.ifCond .lt 35, 3) := by decide +kernel
theorem dX0_add_7 : decode cX0_add 7 = .ok (.aload_n 0, 1) := by decide +kernel
theorem dX0_add_8 : decode cX0_add 8 = .ok (.getfield 49, 3) := by decide +kernel
theorem dX0_add_11 : decode cX0_add 11 = .ok (.aload_n 0, 1) := by decide +kernel
theorem dX0_add_12 : decode cX0_add 12 = .ok (.getfield 9, 3) := by decide +kernel
theorem dX0_add_15 : decode cX0_add 15 = .ok (.arraylength, 1) := by decide +kernel
theorem dX0_add_16 : decode cX0_add 16 = .ok (.if_icmp .ge 23, 3) := by decide +kernel
theorem dX0_add_19 : decode cX0_add 19 = .ok (.aload_n 0, 1) := by decide +kernel
theorem dX0_add_20 : decode cX0_add 20 = .ok (.getfield 9, 3) := by decide +kernel
theorem dX0_add_23 : decode cX0_add 23 = .ok (.aload_n 0, 1) := by decide +kernel
theorem dX0_add_24 : decode cX0_add 24 = .ok (.getfield 49, 3) := by decide +kernel
theorem dX0_add_27 : decode cX0_add 27 = .ok (.iload_n 1, 1) := by decide +kernel
theorem dX0_add_28 : decode cX0_add 28 = .ok (.iastore, 1) := by decide +kernel
theorem dX0_add_29 : decode cX0_add 29 = .ok (.aload_n 0, 1) := by decide +kernel
theorem dX0_add_30 : decode cX0_add 30 = .ok (.dup, 1) := by decide +kernel
theorem dX0_add_31 : decode cX0_add 31 = .ok (.getfield 49, 3) := by decide +kernel
theorem dX0_add_34 : decode cX0_add 34 = .ok (.iconst 1, 1) := by decide +kernel
theorem dX0_add_35 : decode cX0_add 35 = .ok (.iadd, 1) := by decide +kernel
theorem dX0_add_36 : decode cX0_add 36 = .ok (.putfield 49, 3) := by decide +kernel
theorem dX0_add_39 : decode cX0_add 39 = .ok (.return_, 1) := by decide +kernel
theorem dX0_remove_0 : decode cX0_remove 0 = .ok (.iconst 0, 1) := by decide +kernel
theorem dX0_remove_1 : decode cX0_remove 1 = .ok (.istore_n 2, 1) := by decide +kernel
theorem dX0_remove_2 : decode cX0_remove 2 = .ok (.iconst 0, 1) := by decide +kernel
theorem dX0_remove_3 : decode cX0_remove 3 = .ok (.istore_n 3, 1) := by decide +kernel
theorem dX0_remove_4 : decode cX0_remove 4 = .ok (.iload_n 3, 1) := by decide +kernel
theorem dX0_remove_5 : decode cX0_remove 5 = .ok (.aload_n 0, 1) := by decide +kernel
theorem dX0_remove_6 : decode cX0_remove 6 = .ok (.getfield 49, 3) := by decide +kernel
theorem dX0_remove_9 : decode cX0_remove 9 = .ok (.if_icmp .ge 52, 3) := by decide +kernel
theorem dX0_remove_12 : decode cX0_remove 12 = .ok (.iload_n 3, 1) := by decide +kernel
theorem dX0_remove_13 : decode cX0_remove 13 = .ok (.aload_n 0, 1) := by decide +kernel
theorem dX0_remove_14 : decode cX0_remove 14 = .ok (.getfield 9, 3) := by decide +kernel
theorem dX0_remove_17 : decode cX0_remove 17 = .ok (.arraylength, 1) := by decide +kernel
theorem dX0_remove_18 : decode cX0_remove 18 = .ok (.if_icmp .ge 43, 3) := by decide +kernel
theorem dX0_remove_21 : decode cX0_remove 21 = .ok (.aload_n 0, 1) := by decide +kernel
theorem dX0_remove_22 : decode cX0_remove 22 = .ok (.getfield 9, 3) := by decide +kernel
theorem dX0_remove_25 : decode cX0_remove 25 = .ok (.iload_n 3, 1) := by decide +kernel
theorem dX0_remove_26 : decode cX0_remove 26 = .ok (.iaload, 1) := by decide +kernel
theorem dX0_remove_27 : decode cX0_remove 27 = .ok (.iload_n 1, 1) := by decide +kernel
theorem dX0_remove_28 : decode cX0_remove 28 = .ok (.if_icmp .eq 27, 3) := by decide +kernel
theorem dX0_remove_31 : decode cX0_remove 31 = .ok (.iload_n 2, 1) := by decide +kernel
theorem dX0_remove_32 : decode cX0_remove 32 = .ok (.aload_n 0, 1) := by decide +kernel
theorem dX0_remove_33 : decode cX0_remove 33 = .ok (.getfield 9, 3) := by decide +kernel
theorem dX0_remove_36 : decode cX0_remove 36 = .ok (.arraylength, 1) := by decide +kernel
theorem dX0_remove_37 : decode cX0_remove 37 = .ok (.if_icmp .ge 18, 3) := by decide +kernel
theorem dX0_remove_40 : decode cX0_remove 40 = .ok (.aload_n 0, 1) := by decide +kernel
theorem dX0_remove_41 : decode cX0_remove 41 = .ok (.getfield 9, 3) := by decide +kernel
theorem dX0_remove_44 : decode cX0_remove 44 = .ok (.iload_n 2, 1) := by decide +kernel
theorem dX0_remove_45 : decode cX0_remove 45 = .ok (.aload_n 0, 1) := by decide +kernel
theorem dX0_remove_46 : decode cX0_remove 46 = .ok (.getfield 9, 3) := by decide +kernel
theorem dX0_remove_49 : decode cX0_remove 49 = .ok (.iload_n 3, 1) := by decide +kernel
theorem dX0_remove_50 : decode cX0_remove 50 = .ok (.iaload, 1) := by decide +kernel
theorem dX0_remove_51 : decode cX0_remove 51 = .ok (.iastore, 1) := by decide +kernel
theorem dX0_remove_52 : decode cX0_remove 52 = .ok (.iinc 2 1, 3) := by decide +kernel
theorem dX0_remove_55 : decode cX0_remove 55 = .ok (.iinc 3 1, 3) := by decide +kernel
theorem dX0_remove_58 : decode cX0_remove 58 = .ok (.goto (-54), 3) := by decide +kernel
theorem dX0_remove_61 : decode cX0_remove 61 = .ok (.aload_n 0, 1) := by decide +kernel
theorem dX0_remove_62 : decode cX0_remove 62 = .ok (.iload_n 2, 1) := by decide +kernel
theorem dX0_remove_63 : decode cX0_remove 63 = .ok (.putfield 49, 3) := by decide +kernel
theorem dX0_remove_66 : decode cX0_remove 66 = .ok (.return_, 1) := by decide +kernel
theorem dX1_init_0 : decode cX1_init 0 = .ok (.aload_n 0, 1) := by decide +kernel
theorem dX1_init_1 : decode cX1_init 1 = .ok (.invokespecial 3, 3) := by decide +kernel
theorem dX1_init_4 : decode cX1_init 4 = .ok (.aload_n 0, 1) := by decide +kernel
theorem dX1_init_5 : decode cX1_init 5 = .ok (.iconst 5, 1) := by decide +kernel
theorem dX1_init_6 : decode cX1_init 6 = .ok (.anewarray 9, 3) := by decide +kernel
theorem dX1_init_9 : decode cX1_init 9 = .ok (.putfield 11, 3) := by decide +kernel
theorem dX1_init_12 : decode cX1_init 12 = .ok (.iconst 0, 1) := by decide +kernel
theorem dX1_init_13 : decode cX1_init 13 = .ok (.istore_n 1, 1) := by decide +kernel
theorem dX1_init_14 : decode cX1_init 14 = .ok (.iload_n 1, 1) := by decide +kernel
theorem dX1_init_15 : decode cX1_init 15 = .ok (.aload_n 0, 1) := by decide +kernel
theorem dX1_init_16 : decode cX1_init 16 = .ok (.getfield 11, 3) := by decide +kernel
theorem dX1_init_19 : decode cX1_init 19 = .ok (.arraylength, 1) := by decide +kernel
theorem dX1_init_20 : decode cX1_init 20 = .ok (.if_icmp .ge 22, 3) := by decide +kernel
theorem dX1_init_23 : decode cX1_init 23 = .ok (.aload_n 0, 1) := by decide +kernel
theorem dX1_init_24 : decode cX1_init 24 = .ok (.getfield 11, 3) := by decide +kernel
theorem dX1_init_27 : decode cX1_init 27 = .ok (.iload_n 1, 1) := by decide +kernel
theorem dX1_init_28 : decode cX1_init 28 = .ok (.new 9, 3) := by decide +kernel
theorem dX1_init_31 : decode cX1_init 31 = .ok (.dup, 1) := by decide +kernel
theorem dX1_init_32 : decode cX1_init 32 = .ok (.invokespecial 17, 3) := by decide +kernel
theorem dX1_init_35 : decode cX1_init 35 = .ok (.aastore, 1) := by decide +kernel
theorem dX1_init_36 : decode cX1_init 36 = .ok (.iinc 1 1, 3) := by decide +kernel
theorem dX1_init_39 : decode cX1_init 39 = .ok (.goto (-25), 3) := by decide +kernel
theorem dX1_init_42 : decode cX1_init 42 = .ok (.return_, 1) := by decide +kernel
theorem dX1_note_0 : decode cX1_note 0 = .ok (.aload_n 0, 1) := by decide +kernel
theorem dX1_note_1 : decode cX1_note 1 = .ok (.getfield 18, 3) := by decide +kernel
theorem dX1_note_4 : decode cX1_note 4 = .ok (.ifCond .lt 40, 3) := by decide +kernel
theorem dX1_note_7 : decode cX1_note 7 = .ok (.aload_n 0, 1) := by decide +kernel
theorem dX1_note_8 : decode cX1_note 8 = .ok (.getfield 18, 3) := by decide +kernel
theorem dX1_note_11 : decode cX1_note 11 = .ok (.aload_n 0, 1) := by decide +kernel
theorem dX1_note_12 : decode cX1_note 12 = .ok (.getfield 11, 3) := by decide +kernel
theorem dX1_note_15 : decode cX1_note 15 = .ok (.arraylength, 1) := by decide +kernel
theorem dX1_note_16 : decode cX1_note 16 = .ok (.if_icmp .ge 28, 3) := by decide +kernel
theorem dX1_note_19 : decode cX1_note 19 = .ok (.aload_n 0, 1) := by decide +kernel
theorem dX1_note_20 : decode cX1_note 20 = .ok (.getfield 11, 3) := by decide +kernel
theorem dX1_note_23 : decode cX1_note 23 = .ok (.aload_n 0, 1) := by decide +kernel
theorem dX1_note_24 : decode cX1_note 24 = .ok (.getfield 18, 3) := by decide +kernel
theorem dX1_note_27 : decode cX1_note 27 = .ok (.aaload, 1) := by decide +kernel
theorem dX1_note_28 : decode cX1_note 28 = .ok (.ifnull 16, 3) := by decide +kernel
theorem dX1_note_31 : decode cX1_note 31 = .ok (.aload_n 0, 1) := by decide +kernel
theorem dX1_note_32 : decode cX1_note 32 = .ok (.getfield 11, 3) := by decide +kernel
theorem dX1_note_35 : decode cX1_note 35 = .ok (.aload_n 0, 1) := by decide +kernel
theorem dX1_note_36 : decode cX1_note 36 = .ok (.getfield 18, 3) := by decide +kernel
theorem dX1_note_39 : decode cX1_note 39 = .ok (.aaload, 1) := by decide +kernel
theorem dX1_note_40 : decode cX1_note 40 = .ok (.aload_n 1, 1) := by decide +kernel
theorem dX1_note_41 : decode cX1_note 41 = .ok (.invokevirtual 22, 3) := by decide +kernel
theorem dX1_note_44 : decode cX1_note 44 = .ok (.return_, 1) := by decide +kernel
theorem dX1_keep_0 : decode cX1_keep 0 = .ok (.iload_n 1, 1) := by decide +kernel
theorem dX1_keep_1 : decode cX1_keep 1 = .ok (.ifCond .lt 45, 3) := by decide +kernel
theorem dX1_keep_4 : decode cX1_keep 4 = .ok (.aload_n 0, 1) := by decide +kernel
theorem dX1_keep_5 : decode cX1_keep 5 = .ok (.aload_n 0, 1) := by decide +kernel
theorem dX1_keep_6 : decode cX1_keep 6 = .ok (.getfield 18, 3) := by decide +kernel
theorem dX1_keep_9 : decode cX1_keep 9 = .ok (.iconst 1, 1) := by decide +kernel
theorem dX1_keep_10 : decode cX1_keep 10 = .ok (.iadd, 1) := by decide +kernel
theorem dX1_keep_11 : decode cX1_keep 11 = .ok (.aload_n 0, 1) := by decide +kernel
theorem dX1_keep_12 : decode cX1_keep 12 = .ok (.getfield 11, 3) := by decide +kernel
theorem dX1_keep_15 : decode cX1_keep 15 = .ok (.arraylength, 1) := by decide +kernel
theorem dX1_keep_16 : decode cX1_keep 16 = .ok (.if_icmp .ge 12, 3) := by decide +kernel
theorem dX1_keep_19 : decode cX1_keep 19 = .ok (.aload_n 0, 1) := by decide +kernel
theorem dX1_keep_20 : decode cX1_keep 20 = .ok (.getfield 18, 3) := by decide +kernel
theorem dX1_keep_23 : decode cX1_keep 23 = .ok (.iconst 1, 1) := by decide +kernel
theorem dX1_keep_24 : decode cX1_keep 24 = .ok (.iadd, 1) := by decide +kernel
theorem dX1_keep_25 : decode cX1_keep 25 = .ok (.goto 4, 3) := by decide +kernel
theorem dX1_keep_28 : decode cX1_keep 28 = .ok (.iconst 0, 1) := by decide +kernel
theorem dX1_keep_29 : decode cX1_keep 29 = .ok (.putfield 18, 3) := by decide +kernel
theorem dX1_keep_32 : decode cX1_keep 32 = .ok (.aload_n 0, 1) := by decide +kernel
theorem dX1_keep_33 : decode cX1_keep 33 = .ok (.aload_n 0, 1) := by decide +kernel
theorem dX1_keep_34 : decode cX1_keep 34 = .ok (.getfield 26, 3) := by decide +kernel
theorem dX1_keep_37 : decode cX1_keep 37 = .ok (.iconst 1, 1) := by decide +kernel
theorem dX1_keep_38 : decode cX1_keep 38 = .ok (.iadd, 1) := by decide +kernel
theorem dX1_keep_39 : decode cX1_keep 39 = .ok (.iconst 4, 1) := by decide +kernel
theorem dX1_keep_40 : decode cX1_keep 40 = .ok (.invokestatic 29, 3) := by decide +kernel
theorem dX1_keep_43 : decode cX1_keep 43 = .ok (.putfield 26, 3) := by decide +kernel
theorem dX1_keep_46 : decode cX1_keep 46 = .ok (.iload_n 1, 1) := by decide +kernel
theorem dX1_keep_47 : decode cX1_keep 47 = .ok (.ireturn, 1) := by decide +kernel
theorem dX1_restoreInto_0 : decode cX1_restoreInto 0 = .ok (.aload_n 0, 1) := by decide +kernel
theorem dX1_restoreInto_1 : decode cX1_restoreInto 1 = .ok (.getfield 26, 3) := by decide +kernel
theorem dX1_restoreInto_4 : decode cX1_restoreInto 4 = .ok (.ifCond .gt 6, 3) := by decide +kernel
theorem dX1_restoreInto_7 : decode cX1_restoreInto 7 = .ok (.ldc 35, 2) := by decide +kernel
theorem dX1_restoreInto_9 : decode cX1_restoreInto 9 = .ok (.ireturn, 1) := by decide +kernel
theorem dX1_restoreInto_10 : decode cX1_restoreInto 10 = .ok (.aload_n 0, 1) := by decide +kernel
theorem dX1_restoreInto_11 : decode cX1_restoreInto 11 = .ok (.aload_n 0, 1) := by decide +kernel
theorem dX1_restoreInto_12 : decode cX1_restoreInto 12 = .ok (.getfield 18, 3) := by decide +kernel
theorem dX1_restoreInto_15 : decode cX1_restoreInto 15 = .ok (.ifCond .le 12, 3) := by decide +kernel
theorem dX1_restoreInto_18 : decode cX1_restoreInto 18 = .ok (.aload_n 0, 1) := by decide +kernel
theorem dX1_restoreInto_19 : decode cX1_restoreInto 19 = .ok (.getfield 18, 3) := by decide +kernel
theorem dX1_restoreInto_22 : decode cX1_restoreInto 22 = .ok (.iconst 1, 1) := by decide +kernel
theorem dX1_restoreInto_23 : decode cX1_restoreInto 23 = .ok (.isub, 1) := by decide +kernel
theorem dX1_restoreInto_24 : decode cX1_restoreInto 24 = .ok (.goto 10, 3) := by decide +kernel
theorem dX1_restoreInto_27 : decode cX1_restoreInto 27 = .ok (.aload_n 0, 1) := by decide +kernel
theorem dX1_restoreInto_28 : decode cX1_restoreInto 28 = .ok (.getfield 11, 3) := by decide +kernel
theorem dX1_restoreInto_31 : decode cX1_restoreInto 31 = .ok (.arraylength, 1) := by decide +kernel
theorem dX1_restoreInto_32 : decode cX1_restoreInto 32 = .ok (.iconst 1, 1) := by decide +kernel
theorem dX1_restoreInto_33 : decode cX1_restoreInto 33 = .ok (.isub, 1) := by decide +kernel
theorem dX1_restoreInto_34 : decode cX1_restoreInto 34 = .ok (.putfield 18, 3) := by decide +kernel
theorem dX1_restoreInto_37 : decode cX1_restoreInto 37 = .ok (.aload_n 0, 1) := by decide +kernel
theorem dX1_restoreInto_38 : decode cX1_restoreInto 38 = .ok (.dup, 1) := by decide +kernel
theorem dX1_restoreInto_39 : decode cX1_restoreInto 39 = .ok (.getfield 26, 3) := by decide +kernel
theorem dX1_restoreInto_42 : decode cX1_restoreInto 42 = .ok (.iconst 1, 1) := by decide +kernel
theorem dX1_restoreInto_43 : decode cX1_restoreInto 43 = .ok (.isub, 1) := by decide +kernel
theorem dX1_restoreInto_44 : decode cX1_restoreInto 44 = .ok (.putfield 26, 3) := by decide +kernel
theorem dX1_restoreInto_47 : decode cX1_restoreInto 47 = .ok (.aload_n 0, 1) := by decide +kernel
theorem dX1_restoreInto_48 : decode cX1_restoreInto 48 = .ok (.getfield 18, 3) := by decide +kernel
theorem dX1_restoreInto_51 : decode cX1_restoreInto 51 = .ok (.ifCond .lt 40, 3) := by decide +kernel
theorem dX1_restoreInto_54 : decode cX1_restoreInto 54 = .ok (.aload_n 0, 1) := by decide +kernel
theorem dX1_restoreInto_55 : decode cX1_restoreInto 55 = .ok (.getfield 18, 3) := by decide +kernel
theorem dX1_restoreInto_58 : decode cX1_restoreInto 58 = .ok (.aload_n 0, 1) := by decide +kernel
theorem dX1_restoreInto_59 : decode cX1_restoreInto 59 = .ok (.getfield 11, 3) := by decide +kernel
theorem dX1_restoreInto_62 : decode cX1_restoreInto 62 = .ok (.arraylength, 1) := by decide +kernel
theorem dX1_restoreInto_63 : decode cX1_restoreInto 63 = .ok (.if_icmp .ge 28, 3) := by decide +kernel
theorem dX1_restoreInto_66 : decode cX1_restoreInto 66 = .ok (.aload_n 0, 1) := by decide +kernel
theorem dX1_restoreInto_67 : decode cX1_restoreInto 67 = .ok (.getfield 11, 3) := by decide +kernel
theorem dX1_restoreInto_70 : decode cX1_restoreInto 70 = .ok (.aload_n 0, 1) := by decide +kernel
theorem dX1_restoreInto_71 : decode cX1_restoreInto 71 = .ok (.getfield 18, 3) := by decide +kernel
theorem dX1_restoreInto_74 : decode cX1_restoreInto 74 = .ok (.aaload, 1) := by decide +kernel
theorem dX1_restoreInto_75 : decode cX1_restoreInto 75 = .ok (.ifnull 16, 3) := by decide +kernel
theorem dX1_restoreInto_78 : decode cX1_restoreInto 78 = .ok (.aload_n 1, 1) := by decide +kernel
theorem dX1_restoreInto_79 : decode cX1_restoreInto 79 = .ok (.aload_n 0, 1) := by decide +kernel
theorem dX1_restoreInto_80 : decode cX1_restoreInto 80 = .ok (.getfield 11, 3) := by decide +kernel
theorem dX1_restoreInto_83 : decode cX1_restoreInto 83 = .ok (.aload_n 0, 1) := by decide +kernel
theorem dX1_restoreInto_84 : decode cX1_restoreInto 84 = .ok (.getfield 18, 3) := by decide +kernel
theorem dX1_restoreInto_87 : decode cX1_restoreInto 87 = .ok (.aaload, 1) := by decide +kernel
theorem dX1_restoreInto_88 : decode cX1_restoreInto 88 = .ok (.invokevirtual 22, 3) := by decide +kernel
theorem dX1_restoreInto_91 : decode cX1_restoreInto 91 = .ok (.aload_n 0, 1) := by decide +kernel
theorem dX1_restoreInto_92 : decode cX1_restoreInto 92 = .ok (.getfield 26, 3) := by decide +kernel
theorem dX1_restoreInto_95 : decode cX1_restoreInto 95 = .ok (.ireturn, 1) := by decide +kernel
theorem dX2_init_0 : decode cX2_init 0 = .ok (.aload_n 0, 1) := by decide +kernel
theorem dX2_init_1 : decode cX2_init 1 = .ok (.invokespecial 3, 3) := by decide +kernel
theorem dX2_init_4 : decode cX2_init 4 = .ok (.aload_n 0, 1) := by decide +kernel
theorem dX2_init_5 : decode cX2_init 5 = .ok (.iconst (-1), 1) := by decide +kernel
theorem dX2_init_6 : decode cX2_init 6 = .ok (.putfield 9, 3) := by decide +kernel
theorem dX2_init_9 : decode cX2_init 9 = .ok (.aload_n 0, 1) := by decide +kernel
theorem dX2_init_10 : decode cX2_init 10 = .ok (.iconst (-1), 1) := by decide +kernel
theorem dX2_init_11 : decode cX2_init 11 = .ok (.putfield 15, 3) := by decide +kernel
theorem dX2_init_14 : decode cX2_init 14 = .ok (.aload_n 0, 1) := by decide +kernel
theorem dX2_init_15 : decode cX2_init 15 = .ok (.iconst (-1), 1) := by decide +kernel
theorem dX2_init_16 : decode cX2_init 16 = .ok (.putfield 18, 3) := by decide +kernel
theorem dX2_init_19 : decode cX2_init 19 = .ok (.aload_n 0, 1) := by decide +kernel
theorem dX2_init_20 : decode cX2_init 20 = .ok (.iconst (-1), 1) := by decide +kernel
theorem dX2_init_21 : decode cX2_init 21 = .ok (.putfield 21, 3) := by decide +kernel
theorem dX2_init_24 : decode cX2_init 24 = .ok (.aload_n 0, 1) := by decide +kernel
theorem dX2_init_25 : decode cX2_init 25 = .ok (.iload_n 1, 1) := by decide +kernel
theorem dX2_init_26 : decode cX2_init 26 = .ok (.putfield 24, 3) := by decide +kernel
theorem dX2_init_29 : decode cX2_init 29 = .ok (.return_, 1) := by decide +kernel
theorem dX2_copyFrom_0 : decode cX2_copyFrom 0 = .ok (.aload_n 0, 1) := by decide +kernel
theorem dX2_copyFrom_1 : decode cX2_copyFrom 1 = .ok (.aload_n 1, 1) := by decide +kernel
theorem dX2_copyFrom_2 : decode cX2_copyFrom 2 = .ok (.getfield 27, 3) := by decide +kernel
theorem dX2_copyFrom_5 : decode cX2_copyFrom 5 = .ok (.putfield 27, 3) := by decide +kernel
theorem dX2_copyFrom_8 : decode cX2_copyFrom 8 = .ok (.aload_n 0, 1) := by decide +kernel
theorem dX2_copyFrom_9 : decode cX2_copyFrom 9 = .ok (.aload_n 1, 1) := by decide +kernel
theorem dX2_copyFrom_10 : decode cX2_copyFrom 10 = .ok (.getfield 9, 3) := by decide +kernel
theorem dX2_copyFrom_13 : decode cX2_copyFrom 13 = .ok (.putfield 9, 3) := by decide +kernel
theorem dX2_copyFrom_16 : decode cX2_copyFrom 16 = .ok (.aload_n 0, 1) := by decide +kernel
theorem dX2_copyFrom_17 : decode cX2_copyFrom 17 = .ok (.aload_n 1, 1) := by decide +kernel
theorem dX2_copyFrom_18 : decode cX2_copyFrom 18 = .ok (.getfield 31, 3) := by decide +kernel
theorem dX2_copyFrom_21 : decode cX2_copyFrom 21 = .ok (.putfield 31, 3) := by decide +kernel
theorem dX2_copyFrom_24 : decode cX2_copyFrom 24 = .ok (.aload_n 0, 1) := by decide +kernel
theorem dX2_copyFrom_25 : decode cX2_copyFrom 25 = .ok (.aload_n 1, 1) := by decide +kernel
theorem dX2_copyFrom_26 : decode cX2_copyFrom 26 = .ok (.getfield 34, 3) := by decide +kernel
theorem dX2_copyFrom_29 : decode cX2_copyFrom 29 = .ok (.putfield 34, 3) := by decide +kernel
theorem dX2_copyFrom_32 : decode cX2_copyFrom 32 = .ok (.aload_n 0, 1) := by decide +kernel
theorem dX2_copyFrom_33 : decode cX2_copyFrom 33 = .ok (.aload_n 1, 1) := by decide +kernel
theorem dX2_copyFrom_34 : decode cX2_copyFrom 34 = .ok (.getfield 15, 3) := by decide +kernel
theorem dX2_copyFrom_37 : decode cX2_copyFrom 37 = .ok (.putfield 15, 3) := by decide +kernel
theorem dX2_copyFrom_40 : decode cX2_copyFrom 40 = .ok (.aload_n 0, 1) := by decide +kernel
theorem dX2_copyFrom_41 : decode cX2_copyFrom 41 = .ok (.aload_n 1, 1) := by decide +kernel
theorem dX2_copyFrom_42 : decode cX2_copyFrom 42 = .ok (.getfield 18, 3) := by decide +kernel
theorem dX2_copyFrom_45 : decode cX2_copyFrom 45 = .ok (.putfield 18, 3) := by decide +kernel
theorem dX2_copyFrom_48 : decode cX2_copyFrom 48 = .ok (.aload_n 0, 1) := by decide +kernel
theorem dX2_copyFrom_49 : decode cX2_copyFrom 49 = .ok (.aload_n 1, 1) := by decide +kernel
theorem dX2_copyFrom_50 : decode cX2_copyFrom 50 = .ok (.getfield 21, 3) := by decide +kernel
theorem dX2_copyFrom_53 : decode cX2_copyFrom 53 = .ok (.putfield 21, 3) := by decide +kernel
theorem dX2_copyFrom_56 : decode cX2_copyFrom 56 = .ok (.return_, 1) := by decide +kernel
theorem dX2_forget_0 : decode cX2_forget 0 = .ok (.aload_n 0, 1) := by decide +kernel
theorem dX2_forget_1 : decode cX2_forget 1 = .ok (.iconst 0, 1) := by decide +kernel
theorem dX2_forget_2 : decode cX2_forget 2 = .ok (.putfield 27, 3) := by decide +kernel
theorem dX2_forget_5 : decode cX2_forget 5 = .ok (.aload_n 0, 1) := by decide +kernel
theorem dX2_forget_6 : decode cX2_forget 6 = .ok (.iconst (-1), 1) := by decide +kernel
theorem dX2_forget_7 : decode cX2_forget 7 = .ok (.putfield 9, 3) := by decide +kernel
theorem dX2_forget_10 : decode cX2_forget 10 = .ok (.aload_n 0, 1) := by decide +kernel
theorem dX2_forget_11 : decode cX2_forget 11 = .ok (.iconst 0, 1) := by decide +kernel
theorem dX2_forget_12 : decode cX2_forget 12 = .ok (.putfield 31, 3) := by decide +kernel
theorem dX2_forget_15 : decode cX2_forget 15 = .ok (.aload_n 0, 1) := by decide +kernel
theorem dX2_forget_16 : decode cX2_forget 16 = .ok (.iconst 0, 1) := by decide +kernel
theorem dX2_forget_17 : decode cX2_forget 17 = .ok (.putfield 34, 3) := by decide +kernel
theorem dX2_forget_20 : decode cX2_forget 20 = .ok (.aload_n 0, 1) := by decide +kernel
theorem dX2_forget_21 : decode cX2_forget 21 = .ok (.iconst (-1), 1) := by decide +kernel
theorem dX2_forget_22 : decode cX2_forget 22 = .ok (.iconst (-1), 1) := by decide +kernel
theorem dX2_forget_23 : decode cX2_forget 23 = .ok (.iconst (-1), 1) := by decide +kernel
theorem dX2_forget_24 : decode cX2_forget 24 = .ok (.invokevirtual 37, 3) := by decide +kernel
theorem dX2_forget_27 : decode cX2_forget 27 = .ok (.return_, 1) := by decide +kernel
theorem dX2_setWishes_0 : decode cX2_setWishes 0 = .ok (.aload_n 0, 1) := by decide +kernel
theorem dX2_setWishes_1 : decode cX2_setWishes 1 = .ok (.iload_n 1, 1) := by decide +kernel
theorem dX2_setWishes_2 : decode cX2_setWishes 2 = .ok (.putfield 15, 3) := by decide +kernel
theorem dX2_setWishes_5 : decode cX2_setWishes 5 = .ok (.aload_n 0, 1) := by decide +kernel
theorem dX2_setWishes_6 : decode cX2_setWishes 6 = .ok (.iload_n 2, 1) := by decide +kernel
theorem dX2_setWishes_7 : decode cX2_setWishes 7 = .ok (.putfield 18, 3) := by decide +kernel
theorem dX2_setWishes_10 : decode cX2_setWishes 10 = .ok (.aload_n 0, 1) := by decide +kernel
theorem dX2_setWishes_11 : decode cX2_setWishes 11 = .ok (.iload_n 3, 1) := by decide +kernel
theorem dX2_setWishes_12 : decode cX2_setWishes 12 = .ok (.putfield 21, 3) := by decide +kernel
theorem dX2_setWishes_15 : decode cX2_setWishes 15 = .ok (.return_, 1) := by decide +kernel
theorem dX2_wishAt_0 : decode cX2_wishAt 0 = .ok (.iload_n 1, 1) := by decide +kernel
theorem dX2_wishAt_1 : decode cX2_wishAt 1 = .ok (.tableswitch 42 0 2 #[27, 32, 37], 27) := by decide +kernel
theorem dX2_wishAt_28 : decode cX2_wishAt 28 = .ok (.aload_n 0, 1) := by decide +kernel
theorem dX2_wishAt_29 : decode cX2_wishAt 29 = .ok (.getfield 15, 3) := by decide +kernel
theorem dX2_wishAt_32 : decode cX2_wishAt 32 = .ok (.ireturn, 1) := by decide +kernel
theorem dX2_wishAt_33 : decode cX2_wishAt 33 = .ok (.aload_n 0, 1) := by decide +kernel
theorem dX2_wishAt_34 : decode cX2_wishAt 34 = .ok (.getfield 18, 3) := by decide +kernel
theorem dX2_wishAt_37 : decode cX2_wishAt 37 = .ok (.ireturn, 1) := by decide +kernel
theorem dX2_wishAt_38 : decode cX2_wishAt 38 = .ok (.aload_n 0, 1) := by decide +kernel
theorem dX2_wishAt_39 : decode cX2_wishAt 39 = .ok (.getfield 21, 3) := by decide +kernel
theorem dX2_wishAt_42 : decode cX2_wishAt 42 = .ok (.ireturn, 1) := by decide +kernel
theorem dX2_wishAt_43 : decode cX2_wishAt 43 = .ok (.iconst (-1), 1) := by decide +kernel
theorem dX2_wishAt_44 : decode cX2_wishAt 44 = .ok (.ireturn, 1) := by decide +kernel
theorem dX2_rankOf_0 : decode cX2_rankOf 0 = .ok (.iload_n 1, 1) := by decide +kernel
theorem dX2_rankOf_1 : decode cX2_rankOf 1 = .ok (.aload_n 0, 1) := by decide +kernel
theorem dX2_rankOf_2 : decode cX2_rankOf 2 = .ok (.getfield 15, 3) := by decide +kernel
theorem dX2_rankOf_5 : decode cX2_rankOf 5 = .ok (.if_icmp .ne 5, 3) := by decide +kernel
theorem dX2_rankOf_8 : decode cX2_rankOf 8 = .ok (.iconst 0, 1) := by decide +kernel
theorem dX2_rankOf_9 : decode cX2_rankOf 9 = .ok (.ireturn, 1) := by decide +kernel
theorem dX2_rankOf_10 : decode cX2_rankOf 10 = .ok (.iload_n 1, 1) := by decide +kernel
theorem dX2_rankOf_11 : decode cX2_rankOf 11 = .ok (.aload_n 0, 1) := by decide +kernel
theorem dX2_rankOf_12 : decode cX2_rankOf 12 = .ok (.getfield 18, 3) := by decide +kernel
theorem dX2_rankOf_15 : decode cX2_rankOf 15 = .ok (.if_icmp .ne 5, 3) := by decide +kernel
theorem dX2_rankOf_18 : decode cX2_rankOf 18 = .ok (.iconst 1, 1) := by decide +kernel
theorem dX2_rankOf_19 : decode cX2_rankOf 19 = .ok (.ireturn, 1) := by decide +kernel
theorem dX2_rankOf_20 : decode cX2_rankOf 20 = .ok (.iload_n 1, 1) := by decide +kernel
theorem dX2_rankOf_21 : decode cX2_rankOf 21 = .ok (.aload_n 0, 1) := by decide +kernel
theorem dX2_rankOf_22 : decode cX2_rankOf 22 = .ok (.getfield 21, 3) := by decide +kernel
theorem dX2_rankOf_25 : decode cX2_rankOf 25 = .ok (.if_icmp .ne 7, 3) := by decide +kernel
theorem dX2_rankOf_28 : decode cX2_rankOf 28 = .ok (.iconst 2, 1) := by decide +kernel
theorem dX2_rankOf_29 : decode cX2_rankOf 29 = .ok (.goto 4, 3) := by decide +kernel
theorem dX2_rankOf_32 : decode cX2_rankOf 32 = .ok (.iconst 3, 1) := by decide +kernel
theorem dX2_rankOf_33 : decode cX2_rankOf 33 = .ok (.ireturn, 1) := by decide +kernel
theorem dX2_rankHeld_0 : decode cX2_rankHeld 0 = .ok (.aload_n 0, 1) := by decide +kernel
theorem dX2_rankHeld_1 : decode cX2_rankHeld 1 = .ok (.getfield 9, 3) := by decide +kernel
theorem dX2_rankHeld_4 : decode cX2_rankHeld 4 = .ok (.iconst (-1), 1) := by decide +kernel
theorem dX2_rankHeld_5 : decode cX2_rankHeld 5 = .ok (.if_icmp .ne 7, 3) := by decide +kernel
theorem dX2_rankHeld_8 : decode cX2_rankHeld 8 = .ok (.iconst 4, 1) := by decide +kernel
theorem dX2_rankHeld_9 : decode cX2_rankHeld 9 = .ok (.goto 11, 3) := by decide +kernel
theorem dX2_rankHeld_12 : decode cX2_rankHeld 12 = .ok (.aload_n 0, 1) := by decide +kernel
theorem dX2_rankHeld_13 : decode cX2_rankHeld 13 = .ok (.aload_n 0, 1) := by decide +kernel
theorem dX2_rankHeld_14 : decode cX2_rankHeld 14 = .ok (.getfield 9, 3) := by decide +kernel
theorem dX2_rankHeld_17 : decode cX2_rankHeld 17 = .ok (.invokevirtual 41, 3) := by decide +kernel
theorem dX2_rankHeld_20 : decode cX2_rankHeld 20 = .ok (.ireturn, 1) := by decide +kernel
theorem dX2_waitsFor_0 : decode cX2_waitsFor 0 = .ok (.aload_n 0, 1) := by decide +kernel
theorem dX2_waitsFor_1 : decode cX2_waitsFor 1 = .ok (.iload_n 1, 1) := by decide +kernel
theorem dX2_waitsFor_2 : decode cX2_waitsFor 2 = .ok (.invokevirtual 41, 3) := by decide +kernel
theorem dX2_waitsFor_5 : decode cX2_waitsFor 5 = .ok (.istore_n 2, 1) := by decide +kernel
theorem dX2_waitsFor_6 : decode cX2_waitsFor 6 = .ok (.aload_n 0, 1) := by decide +kernel
theorem dX2_waitsFor_7 : decode cX2_waitsFor 7 = .ok (.getfield 27, 3) := by decide +kernel
theorem dX2_waitsFor_10 : decode cX2_waitsFor 10 = .ok (.ifCond .eq 20, 3) := by decide +kernel
theorem dX2_waitsFor_13 : decode cX2_waitsFor 13 = .ok (.iload_n 2, 1) := by decide +kernel
theorem dX2_waitsFor_14 : decode cX2_waitsFor 14 = .ok (.iconst 3, 1) := by decide +kernel
theorem dX2_waitsFor_15 : decode cX2_waitsFor 15 = .ok (.if_icmp .ge 15, 3) := by decide +kernel
theorem dX2_waitsFor_18 : decode cX2_waitsFor 18 = .ok (.iload_n 2, 1) := by decide +kernel
theorem dX2_waitsFor_19 : decode cX2_waitsFor 19 = .ok (.aload_n 0, 1) := by decide +kernel
theorem dX2_waitsFor_20 : decode cX2_waitsFor 20 = .ok (.invokevirtual 45, 3) := by decide +kernel
theorem dX2_waitsFor_23 : decode cX2_waitsFor 23 = .ok (.if_icmp .ge 7, 3) := by decide +kernel
theorem dX2_waitsFor_26 : decode cX2_waitsFor 26 = .ok (.iconst 1, 1) := by decide +kernel
theorem dX2_waitsFor_27 : decode cX2_waitsFor 27 = .ok (.goto 4, 3) := by decide +kernel
theorem dX2_waitsFor_30 : decode cX2_waitsFor 30 = .ok (.iconst 0, 1) := by decide +kernel
theorem dX2_waitsFor_31 : decode cX2_waitsFor 31 = .ok (.ireturn, 1) := by decide +kernel
theorem dX3_init_0 : decode cX3_init 0 = .ok (.aload_n 0, 1) := by decide +kernel
theorem dX3_init_1 : decode cX3_init 1 = .ok (.invokespecial 3, 3) := by decide +kernel
theorem dX3_init_4 : decode cX3_init 4 = .ok (.aload_n 0, 1) := by decide +kernel
theorem dX3_init_5 : decode cX3_init 5 = .ok (.bipush 8, 2) := by decide +kernel
theorem dX3_init_7 : decode cX3_init 7 = .ok (.anewarray 9, 3) := by decide +kernel
theorem dX3_init_10 : decode cX3_init 10 = .ok (.putfield 11, 3) := by decide +kernel
theorem dX3_init_13 : decode cX3_init 13 = .ok (.aload_n 0, 1) := by decide +kernel
theorem dX3_init_14 : decode cX3_init 14 = .ok (.bipush 30, 2) := by decide +kernel
theorem dX3_init_16 : decode cX3_init 16 = .ok (.anewarray 17, 3) := by decide +kernel
theorem dX3_init_19 : decode cX3_init 19 = .ok (.putfield 19, 3) := by decide +kernel
theorem dX3_init_22 : decode cX3_init 22 = .ok (.aload_n 0, 1) := by decide +kernel
theorem dX3_init_23 : decode cX3_init 23 = .ok (.iconst 5, 1) := by decide +kernel
theorem dX3_init_24 : decode cX3_init 24 = .ok (.newarray .int, 2) := by decide +kernel
theorem dX3_init_26 : decode cX3_init 26 = .ok (.putfield 23, 3) := by decide +kernel
theorem dX3_init_29 : decode cX3_init 29 = .ok (.iconst 0, 1) := by decide +kernel
theorem dX3_init_30 : decode cX3_init 30 = .ok (.istore_n 1, 1) := by decide +kernel
theorem dX3_init_31 : decode cX3_init 31 = .ok (.iload_n 1, 1) := by decide +kernel
theorem dX3_init_32 : decode cX3_init 32 = .ok (.aload_n 0, 1) := by decide +kernel
theorem dX3_init_33 : decode cX3_init 33 = .ok (.getfield 11, 3) := by decide +kernel
theorem dX3_init_36 : decode cX3_init 36 = .ok (.arraylength, 1) := by decide +kernel
theorem dX3_init_37 : decode cX3_init 37 = .ok (.if_icmp .ge 23, 3) := by decide +kernel
theorem dX3_init_40 : decode cX3_init 40 = .ok (.aload_n 0, 1) := by decide +kernel
theorem dX3_init_41 : decode cX3_init 41 = .ok (.getfield 11, 3) := by decide +kernel
theorem dX3_init_44 : decode cX3_init 44 = .ok (.iload_n 1, 1) := by decide +kernel
theorem dX3_init_45 : decode cX3_init 45 = .ok (.new 9, 3) := by decide +kernel
theorem dX3_init_48 : decode cX3_init 48 = .ok (.dup, 1) := by decide +kernel
theorem dX3_init_49 : decode cX3_init 49 = .ok (.iload_n 1, 1) := by decide +kernel
theorem dX3_init_50 : decode cX3_init 50 = .ok (.invokespecial 27, 3) := by decide +kernel
theorem dX3_init_53 : decode cX3_init 53 = .ok (.aastore, 1) := by decide +kernel
theorem dX3_init_54 : decode cX3_init 54 = .ok (.iinc 1 1, 3) := by decide +kernel
theorem dX3_init_57 : decode cX3_init 57 = .ok (.goto (-26), 3) := by decide +kernel
theorem dX3_init_60 : decode cX3_init 60 = .ok (.iconst 0, 1) := by decide +kernel
theorem dX3_init_61 : decode cX3_init 61 = .ok (.istore_n 1, 1) := by decide +kernel
theorem dX3_init_62 : decode cX3_init 62 = .ok (.iload_n 1, 1) := by decide +kernel
theorem dX3_init_63 : decode cX3_init 63 = .ok (.aload_n 0, 1) := by decide +kernel
theorem dX3_init_64 : decode cX3_init 64 = .ok (.getfield 19, 3) := by decide +kernel
theorem dX3_init_67 : decode cX3_init 67 = .ok (.arraylength, 1) := by decide +kernel
theorem dX3_init_68 : decode cX3_init 68 = .ok (.if_icmp .ge 23, 3) := by decide +kernel
theorem dX3_init_71 : decode cX3_init 71 = .ok (.aload_n 0, 1) := by decide +kernel
theorem dX3_init_72 : decode cX3_init 72 = .ok (.getfield 19, 3) := by decide +kernel
theorem dX3_init_75 : decode cX3_init 75 = .ok (.iload_n 1, 1) := by decide +kernel
theorem dX3_init_76 : decode cX3_init 76 = .ok (.new 17, 3) := by decide +kernel
theorem dX3_init_79 : decode cX3_init 79 = .ok (.dup, 1) := by decide +kernel
theorem dX3_init_80 : decode cX3_init 80 = .ok (.iload_n 1, 1) := by decide +kernel
theorem dX3_init_81 : decode cX3_init 81 = .ok (.invokespecial 30, 3) := by decide +kernel
theorem dX3_init_84 : decode cX3_init 84 = .ok (.aastore, 1) := by decide +kernel
theorem dX3_init_85 : decode cX3_init 85 = .ok (.iinc 1 1, 3) := by decide +kernel
theorem dX3_init_88 : decode cX3_init 88 = .ok (.goto (-26), 3) := by decide +kernel
theorem dX3_init_91 : decode cX3_init 91 = .ok (.return_, 1) := by decide +kernel
theorem dX3_copyFrom_0 : decode cX3_copyFrom 0 = .ok (.iconst 0, 1) := by decide +kernel
theorem dX3_copyFrom_1 : decode cX3_copyFrom 1 = .ok (.istore_n 2, 1) := by decide +kernel
theorem dX3_copyFrom_2 : decode cX3_copyFrom 2 = .ok (.iload_n 2, 1) := by decide +kernel
theorem dX3_copyFrom_3 : decode cX3_copyFrom 3 = .ok (.aload_n 0, 1) := by decide +kernel
theorem dX3_copyFrom_4 : decode cX3_copyFrom 4 = .ok (.getfield 11, 3) := by decide +kernel
theorem dX3_copyFrom_7 : decode cX3_copyFrom 7 = .ok (.arraylength, 1) := by decide +kernel
theorem dX3_copyFrom_8 : decode cX3_copyFrom 8 = .ok (.if_icmp .ge 51, 3) := by decide +kernel
theorem dX3_copyFrom_11 : decode cX3_copyFrom 11 = .ok (.iload_n 2, 1) := by decide +kernel
theorem dX3_copyFrom_12 : decode cX3_copyFrom 12 = .ok (.aload_n 1, 1) := by decide +kernel
theorem dX3_copyFrom_13 : decode cX3_copyFrom 13 = .ok (.getfield 11, 3) := by decide +kernel
theorem dX3_copyFrom_16 : decode cX3_copyFrom 16 = .ok (.arraylength, 1) := by decide +kernel
theorem dX3_copyFrom_17 : decode cX3_copyFrom 17 = .ok (.if_icmp .ge 42, 3) := by decide +kernel
theorem dX3_copyFrom_20 : decode cX3_copyFrom 20 = .ok (.aload_n 0, 1) := by decide +kernel
theorem dX3_copyFrom_21 : decode cX3_copyFrom 21 = .ok (.getfield 11, 3) := by decide +kernel
theorem dX3_copyFrom_24 : decode cX3_copyFrom 24 = .ok (.iload_n 2, 1) := by decide +kernel
theorem dX3_copyFrom_25 : decode cX3_copyFrom 25 = .ok (.aaload, 1) := by decide +kernel
theorem dX3_copyFrom_26 : decode cX3_copyFrom 26 = .ok (.ifnull 27, 3) := by decide +kernel
theorem dX3_copyFrom_29 : decode cX3_copyFrom 29 = .ok (.aload_n 1, 1) := by decide +kernel
theorem dX3_copyFrom_30 : decode cX3_copyFrom 30 = .ok (.getfield 11, 3) := by decide +kernel
theorem dX3_copyFrom_33 : decode cX3_copyFrom 33 = .ok (.iload_n 2, 1) := by decide +kernel
theorem dX3_copyFrom_34 : decode cX3_copyFrom 34 = .ok (.aaload, 1) := by decide +kernel
theorem dX3_copyFrom_35 : decode cX3_copyFrom 35 = .ok (.ifnull 18, 3) := by decide +kernel
theorem dX3_copyFrom_38 : decode cX3_copyFrom 38 = .ok (.aload_n 0, 1) := by decide +kernel
theorem dX3_copyFrom_39 : decode cX3_copyFrom 39 = .ok (.getfield 11, 3) := by decide +kernel
theorem dX3_copyFrom_42 : decode cX3_copyFrom 42 = .ok (.iload_n 2, 1) := by decide +kernel
theorem dX3_copyFrom_43 : decode cX3_copyFrom 43 = .ok (.aaload, 1) := by decide +kernel
theorem dX3_copyFrom_44 : decode cX3_copyFrom 44 = .ok (.aload_n 1, 1) := by decide +kernel
theorem dX3_copyFrom_45 : decode cX3_copyFrom 45 = .ok (.getfield 11, 3) := by decide +kernel
theorem dX3_copyFrom_48 : decode cX3_copyFrom 48 = .ok (.iload_n 2, 1) := by decide +kernel
theorem dX3_copyFrom_49 : decode cX3_copyFrom 49 = .ok (.aaload, 1) := by decide +kernel
theorem dX3_copyFrom_50 : decode cX3_copyFrom 50 = .ok (.invokevirtual 31, 3) := by decide +kernel
theorem dX3_copyFrom_53 : decode cX3_copyFrom 53 = .ok (.iinc 2 1, 3) := by decide +kernel
theorem dX3_copyFrom_56 : decode cX3_copyFrom 56 = .ok (.goto (-54), 3) := by decide +kernel
theorem dX3_copyFrom_59 : decode cX3_copyFrom 59 = .ok (.iconst 0, 1) := by decide +kernel
theorem dX3_copyFrom_60 : decode cX3_copyFrom 60 = .ok (.istore_n 2, 1) := by decide +kernel
theorem dX3_copyFrom_61 : decode cX3_copyFrom 61 = .ok (.iload_n 2, 1) := by decide +kernel
theorem dX3_copyFrom_62 : decode cX3_copyFrom 62 = .ok (.aload_n 0, 1) := by decide +kernel
theorem dX3_copyFrom_63 : decode cX3_copyFrom 63 = .ok (.getfield 19, 3) := by decide +kernel
theorem dX3_copyFrom_66 : decode cX3_copyFrom 66 = .ok (.arraylength, 1) := by decide +kernel
theorem dX3_copyFrom_67 : decode cX3_copyFrom 67 = .ok (.if_icmp .ge 51, 3) := by decide +kernel
theorem dX3_copyFrom_70 : decode cX3_copyFrom 70 = .ok (.iload_n 2, 1) := by decide +kernel
theorem dX3_copyFrom_71 : decode cX3_copyFrom 71 = .ok (.aload_n 1, 1) := by decide +kernel
theorem dX3_copyFrom_72 : decode cX3_copyFrom 72 = .ok (.getfield 19, 3) := by decide +kernel
theorem dX3_copyFrom_75 : decode cX3_copyFrom 75 = .ok (.arraylength, 1) := by decide +kernel
theorem dX3_copyFrom_76 : decode cX3_copyFrom 76 = .ok (.if_icmp .ge 42, 3) := by decide +kernel
theorem dX3_copyFrom_79 : decode cX3_copyFrom 79 = .ok (.aload_n 0, 1) := by decide +kernel
theorem dX3_copyFrom_80 : decode cX3_copyFrom 80 = .ok (.getfield 19, 3) := by decide +kernel
theorem dX3_copyFrom_83 : decode cX3_copyFrom 83 = .ok (.iload_n 2, 1) := by decide +kernel
theorem dX3_copyFrom_84 : decode cX3_copyFrom 84 = .ok (.aaload, 1) := by decide +kernel
theorem dX3_copyFrom_85 : decode cX3_copyFrom 85 = .ok (.ifnull 27, 3) := by decide +kernel
theorem dX3_copyFrom_88 : decode cX3_copyFrom 88 = .ok (.aload_n 1, 1) := by decide +kernel
theorem dX3_copyFrom_89 : decode cX3_copyFrom 89 = .ok (.getfield 19, 3) := by decide +kernel
theorem dX3_copyFrom_92 : decode cX3_copyFrom 92 = .ok (.iload_n 2, 1) := by decide +kernel
theorem dX3_copyFrom_93 : decode cX3_copyFrom 93 = .ok (.aaload, 1) := by decide +kernel
theorem dX3_copyFrom_94 : decode cX3_copyFrom 94 = .ok (.ifnull 18, 3) := by decide +kernel
theorem dX3_copyFrom_97 : decode cX3_copyFrom 97 = .ok (.aload_n 0, 1) := by decide +kernel
theorem dX3_copyFrom_98 : decode cX3_copyFrom 98 = .ok (.getfield 19, 3) := by decide +kernel
theorem dX3_copyFrom_101 : decode cX3_copyFrom 101 = .ok (.iload_n 2, 1) := by decide +kernel
theorem dX3_copyFrom_102 : decode cX3_copyFrom 102 = .ok (.aaload, 1) := by decide +kernel
theorem dX3_copyFrom_103 : decode cX3_copyFrom 103 = .ok (.aload_n 1, 1) := by decide +kernel
theorem dX3_copyFrom_104 : decode cX3_copyFrom 104 = .ok (.getfield 19, 3) := by decide +kernel
theorem dX3_copyFrom_107 : decode cX3_copyFrom 107 = .ok (.iload_n 2, 1) := by decide +kernel
theorem dX3_copyFrom_108 : decode cX3_copyFrom 108 = .ok (.aaload, 1) := by decide +kernel
theorem dX3_copyFrom_109 : decode cX3_copyFrom 109 = .ok (.invokevirtual 35, 3) := by decide +kernel
theorem dX3_copyFrom_112 : decode cX3_copyFrom 112 = .ok (.iinc 2 1, 3) := by decide +kernel
theorem dX3_copyFrom_115 : decode cX3_copyFrom 115 = .ok (.goto (-54), 3) := by decide +kernel
theorem dX3_copyFrom_118 : decode cX3_copyFrom 118 = .ok (.aload_n 1, 1) := by decide +kernel
theorem dX3_copyFrom_119 : decode cX3_copyFrom 119 = .ok (.getfield 23, 3) := by decide +kernel
theorem dX3_copyFrom_122 : decode cX3_copyFrom 122 = .ok (.iconst 0, 1) := by decide +kernel
theorem dX3_copyFrom_123 : decode cX3_copyFrom 123 = .ok (.aload_n 0, 1) := by decide +kernel
theorem dX3_copyFrom_124 : decode cX3_copyFrom 124 = .ok (.getfield 23, 3) := by decide +kernel
theorem dX3_copyFrom_127 : decode cX3_copyFrom 127 = .ok (.iconst 0, 1) := by decide +kernel
theorem dX3_copyFrom_128 : decode cX3_copyFrom 128 = .ok (.aload_n 1, 1) := by decide +kernel
theorem dX3_copyFrom_129 : decode cX3_copyFrom 129 = .ok (.getfield 23, 3) := by decide +kernel
theorem dX3_copyFrom_132 : decode cX3_copyFrom 132 = .ok (.arraylength, 1) := by decide +kernel
theorem dX3_copyFrom_133 : decode cX3_copyFrom 133 = .ok (.aload_n 0, 1) := by decide +kernel
theorem dX3_copyFrom_134 : decode cX3_copyFrom 134 = .ok (.getfield 23, 3) := by decide +kernel
theorem dX3_copyFrom_137 : decode cX3_copyFrom 137 = .ok (.arraylength, 1) := by decide +kernel
theorem dX3_copyFrom_138 : decode cX3_copyFrom 138 = .ok (.invokestatic 38, 3) := by decide +kernel
theorem dX3_copyFrom_141 : decode cX3_copyFrom 141 = .ok (.invokestatic 44, 3) := by decide +kernel
theorem dX3_copyFrom_144 : decode cX3_copyFrom 144 = .ok (.aload_n 0, 1) := by decide +kernel
theorem dX3_copyFrom_145 : decode cX3_copyFrom 145 = .ok (.aload_n 1, 1) := by decide +kernel
theorem dX3_copyFrom_146 : decode cX3_copyFrom 146 = .ok (.getfield 50, 3) := by decide +kernel
theorem dX3_copyFrom_149 : decode cX3_copyFrom 149 = .ok (.putfield 50, 3) := by decide +kernel
theorem dX3_copyFrom_152 : decode cX3_copyFrom 152 = .ok (.aload_n 0, 1) := by decide +kernel
theorem dX3_copyFrom_153 : decode cX3_copyFrom 153 = .ok (.aload_n 1, 1) := by decide +kernel
theorem dX3_copyFrom_154 : decode cX3_copyFrom 154 = .ok (.getfield 54, 3) := by decide +kernel
theorem dX3_copyFrom_157 : decode cX3_copyFrom 157 = .ok (.putfield 54, 3) := by decide +kernel
theorem dX3_copyFrom_160 : decode cX3_copyFrom 160 = .ok (.aload_n 0, 1) := by decide +kernel
theorem dX3_copyFrom_161 : decode cX3_copyFrom 161 = .ok (.aload_n 1, 1) := by decide +kernel
theorem dX3_copyFrom_162 : decode cX3_copyFrom 162 = .ok (.getfield 57, 3) := by decide +kernel
theorem dX3_copyFrom_165 : decode cX3_copyFrom 165 = .ok (.putfield 57, 3) := by decide +kernel
theorem dX3_copyFrom_168 : decode cX3_copyFrom 168 = .ok (.aload_n 0, 1) := by decide +kernel
theorem dX3_copyFrom_169 : decode cX3_copyFrom 169 = .ok (.aload_n 1, 1) := by decide +kernel
theorem dX3_copyFrom_170 : decode cX3_copyFrom 170 = .ok (.getfield 60, 3) := by decide +kernel
theorem dX3_copyFrom_173 : decode cX3_copyFrom 173 = .ok (.putfield 60, 3) := by decide +kernel
theorem dX3_copyFrom_176 : decode cX3_copyFrom 176 = .ok (.aload_n 0, 1) := by decide +kernel
theorem dX3_copyFrom_177 : decode cX3_copyFrom 177 = .ok (.aload_n 1, 1) := by decide +kernel
theorem dX3_copyFrom_178 : decode cX3_copyFrom 178 = .ok (.getfield 63, 3) := by decide +kernel
theorem dX3_copyFrom_181 : decode cX3_copyFrom 181 = .ok (.putfield 63, 3) := by decide +kernel
theorem dX3_copyFrom_184 : decode cX3_copyFrom 184 = .ok (.aload_n 0, 1) := by decide +kernel
theorem dX3_copyFrom_185 : decode cX3_copyFrom 185 = .ok (.aload_n 1, 1) := by decide +kernel
theorem dX3_copyFrom_186 : decode cX3_copyFrom 186 = .ok (.getfield 67, 3) := by decide +kernel
theorem dX3_copyFrom_189 : decode cX3_copyFrom 189 = .ok (.putfield 67, 3) := by decide +kernel
theorem dX3_copyFrom_192 : decode cX3_copyFrom 192 = .ok (.aload_n 0, 1) := by decide +kernel
theorem dX3_copyFrom_193 : decode cX3_copyFrom 193 = .ok (.aload_n 1, 1) := by decide +kernel
theorem dX3_copyFrom_194 : decode cX3_copyFrom 194 = .ok (.getfield 70, 3) := by decide +kernel
theorem dX3_copyFrom_197 : decode cX3_copyFrom 197 = .ok (.putfield 70, 3) := by decide +kernel
theorem dX3_copyFrom_200 : decode cX3_copyFrom 200 = .ok (.aload_n 0, 1) := by decide +kernel
theorem dX3_copyFrom_201 : decode cX3_copyFrom 201 = .ok (.aload_n 1, 1) := by decide +kernel
theorem dX3_copyFrom_202 : decode cX3_copyFrom 202 = .ok (.getfield 73, 3) := by decide +kernel
theorem dX3_copyFrom_205 : decode cX3_copyFrom 205 = .ok (.putfield 73, 3) := by decide +kernel
theorem dX3_copyFrom_208 : decode cX3_copyFrom 208 = .ok (.aload_n 0, 1) := by decide +kernel
theorem dX3_copyFrom_209 : decode cX3_copyFrom 209 = .ok (.aload_n 1, 1) := by decide +kernel
theorem dX3_copyFrom_210 : decode cX3_copyFrom 210 = .ok (.getfield 76, 3) := by decide +kernel
theorem dX3_copyFrom_213 : decode cX3_copyFrom 213 = .ok (.putfield 76, 3) := by decide +kernel
theorem dX3_copyFrom_216 : decode cX3_copyFrom 216 = .ok (.aload_n 0, 1) := by decide +kernel
theorem dX3_copyFrom_217 : decode cX3_copyFrom 217 = .ok (.aload_n 1, 1) := by decide +kernel
theorem dX3_copyFrom_218 : decode cX3_copyFrom 218 = .ok (.getfield 79, 3) := by decide +kernel
theorem dX3_copyFrom_221 : decode cX3_copyFrom 221 = .ok (.putfield 79, 3) := by decide +kernel
theorem dX3_copyFrom_224 : decode cX3_copyFrom 224 = .ok (.aload_n 0, 1) := by decide +kernel
theorem dX3_copyFrom_225 : decode cX3_copyFrom 225 = .ok (.aload_n 1, 1) := by decide +kernel
theorem dX3_copyFrom_226 : decode cX3_copyFrom 226 = .ok (.getfield 82, 3) := by decide +kernel
theorem dX3_copyFrom_229 : decode cX3_copyFrom 229 = .ok (.putfield 82, 3) := by decide +kernel
theorem dX3_copyFrom_232 : decode cX3_copyFrom 232 = .ok (.return_, 1) := by decide +kernel
theorem dX3_courseAt_0 : decode cX3_courseAt 0 = .ok (.iload_n 1, 1) := by decide +kernel
theorem dX3_courseAt_1 : decode cX3_courseAt 1 = .ok (.ifCond .lt 29, 3) := by decide +kernel
theorem dX3_courseAt_4 : decode cX3_courseAt 4 = .ok (.iload_n 1, 1) := by decide +kernel
theorem dX3_courseAt_5 : decode cX3_courseAt 5 = .ok (.aload_n 0, 1) := by decide +kernel
theorem dX3_courseAt_6 : decode cX3_courseAt 6 = .ok (.getfield 50, 3) := by decide +kernel
theorem dX3_courseAt_9 : decode cX3_courseAt 9 = .ok (.if_icmp .ge 21, 3) := by decide +kernel
theorem dX3_courseAt_12 : decode cX3_courseAt 12 = .ok (.iload_n 1, 1) := by decide +kernel
theorem dX3_courseAt_13 : decode cX3_courseAt 13 = .ok (.aload_n 0, 1) := by decide +kernel
theorem dX3_courseAt_14 : decode cX3_courseAt 14 = .ok (.getfield 11, 3) := by decide +kernel
theorem dX3_courseAt_17 : decode cX3_courseAt 17 = .ok (.arraylength, 1) := by decide +kernel
theorem dX3_courseAt_18 : decode cX3_courseAt 18 = .ok (.if_icmp .ge 12, 3) := by decide +kernel
theorem dX3_courseAt_21 : decode cX3_courseAt 21 = .ok (.aload_n 0, 1) := by decide +kernel
theorem dX3_courseAt_22 : decode cX3_courseAt 22 = .ok (.getfield 11, 3) := by decide +kernel
theorem dX3_courseAt_25 : decode cX3_courseAt 25 = .ok (.iload_n 1, 1) := by decide +kernel
theorem dX3_courseAt_26 : decode cX3_courseAt 26 = .ok (.aaload, 1) := by decide +kernel
theorem dX3_courseAt_27 : decode cX3_courseAt 27 = .ok (.goto 4, 3) := by decide +kernel
theorem dX3_courseAt_30 : decode cX3_courseAt 30 = .ok (.aconst_null, 1) := by decide +kernel
theorem dX3_courseAt_31 : decode cX3_courseAt 31 = .ok (.areturn, 1) := by decide +kernel
theorem dX3_personAt_0 : decode cX3_personAt 0 = .ok (.iload_n 1, 1) := by decide +kernel
theorem dX3_personAt_1 : decode cX3_personAt 1 = .ok (.ifCond .lt 29, 3) := by decide +kernel
theorem dX3_personAt_4 : decode cX3_personAt 4 = .ok (.iload_n 1, 1) := by decide +kernel
theorem dX3_personAt_5 : decode cX3_personAt 5 = .ok (.aload_n 0, 1) := by decide +kernel
theorem dX3_personAt_6 : decode cX3_personAt 6 = .ok (.getfield 54, 3) := by decide +kernel
theorem dX3_personAt_9 : decode cX3_personAt 9 = .ok (.if_icmp .ge 21, 3) := by decide +kernel
theorem dX3_personAt_12 : decode cX3_personAt 12 = .ok (.iload_n 1, 1) := by decide +kernel
theorem dX3_personAt_13 : decode cX3_personAt 13 = .ok (.aload_n 0, 1) := by decide +kernel
theorem dX3_personAt_14 : decode cX3_personAt 14 = .ok (.getfield 19, 3) := by decide +kernel
theorem dX3_personAt_17 : decode cX3_personAt 17 = .ok (.arraylength, 1) := by decide +kernel
theorem dX3_personAt_18 : decode cX3_personAt 18 = .ok (.if_icmp .ge 12, 3) := by decide +kernel
theorem dX3_personAt_21 : decode cX3_personAt 21 = .ok (.aload_n 0, 1) := by decide +kernel
theorem dX3_personAt_22 : decode cX3_personAt 22 = .ok (.getfield 19, 3) := by decide +kernel
theorem dX3_personAt_25 : decode cX3_personAt 25 = .ok (.iload_n 1, 1) := by decide +kernel
theorem dX3_personAt_26 : decode cX3_personAt 26 = .ok (.aaload, 1) := by decide +kernel
theorem dX3_personAt_27 : decode cX3_personAt 27 = .ok (.goto 4, 3) := by decide +kernel
theorem dX3_personAt_30 : decode cX3_personAt 30 = .ok (.aconst_null, 1) := by decide +kernel
theorem dX3_personAt_31 : decode cX3_personAt 31 = .ok (.areturn, 1) := by decide +kernel
theorem dX3_isRoom_0 : decode cX3_isRoom 0 = .ok (.iload_n 1, 1) := by decide +kernel
theorem dX3_isRoom_1 : decode cX3_isRoom 1 = .ok (.ifCond .lt 15, 3) := by decide +kernel
theorem dX3_isRoom_4 : decode cX3_isRoom 4 = .ok (.iload_n 1, 1) := by decide +kernel
theorem dX3_isRoom_5 : decode cX3_isRoom 5 = .ok (.aload_n 0, 1) := by decide +kernel
theorem dX3_isRoom_6 : decode cX3_isRoom 6 = .ok (.getfield 57, 3) := by decide +kernel
theorem dX3_isRoom_9 : decode cX3_isRoom 9 = .ok (.if_icmp .ge 7, 3) := by decide +kernel
theorem dX3_isRoom_12 : decode cX3_isRoom 12 = .ok (.iconst 1, 1) := by decide +kernel
theorem dX3_isRoom_13 : decode cX3_isRoom 13 = .ok (.goto 4, 3) := by decide +kernel
theorem dX3_isRoom_16 : decode cX3_isRoom 16 = .ok (.iconst 0, 1) := by decide +kernel
theorem dX3_isRoom_17 : decode cX3_isRoom 17 = .ok (.ireturn, 1) := by decide +kernel
theorem dX3_chairsOf_0 : decode cX3_chairsOf 0 = .ok (.iload_n 1, 1) := by decide +kernel
theorem dX3_chairsOf_1 : decode cX3_chairsOf 1 = .ok (.ifCond .lt 21, 3) := by decide +kernel
theorem dX3_chairsOf_4 : decode cX3_chairsOf 4 = .ok (.iload_n 1, 1) := by decide +kernel
theorem dX3_chairsOf_5 : decode cX3_chairsOf 5 = .ok (.aload_n 0, 1) := by decide +kernel
theorem dX3_chairsOf_6 : decode cX3_chairsOf 6 = .ok (.getfield 23, 3) := by decide +kernel
theorem dX3_chairsOf_9 : decode cX3_chairsOf 9 = .ok (.arraylength, 1) := by decide +kernel
theorem dX3_chairsOf_10 : decode cX3_chairsOf 10 = .ok (.if_icmp .ge 12, 3) := by decide +kernel
theorem dX3_chairsOf_13 : decode cX3_chairsOf 13 = .ok (.aload_n 0, 1) := by decide +kernel
theorem dX3_chairsOf_14 : decode cX3_chairsOf 14 = .ok (.getfield 23, 3) := by decide +kernel
theorem dX3_chairsOf_17 : decode cX3_chairsOf 17 = .ok (.iload_n 1, 1) := by decide +kernel
theorem dX3_chairsOf_18 : decode cX3_chairsOf 18 = .ok (.iaload, 1) := by decide +kernel
theorem dX3_chairsOf_19 : decode cX3_chairsOf 19 = .ok (.goto 4, 3) := by decide +kernel
theorem dX3_chairsOf_22 : decode cX3_chairsOf 22 = .ok (.iconst 0, 1) := by decide +kernel
theorem dX3_chairsOf_23 : decode cX3_chairsOf 23 = .ok (.ireturn, 1) := by decide +kernel
theorem dX3_addCourse_0 : decode cX3_addCourse 0 = .ok (.iload_n 1, 1) := by decide +kernel
theorem dX3_addCourse_1 : decode cX3_addCourse 1 = .ok (.iconst 0, 1) := by decide +kernel
theorem dX3_addCourse_2 : decode cX3_addCourse 2 = .ok (.bipush 79, 2) := by decide +kernel
theorem dX3_addCourse_4 : decode cX3_addCourse 4 = .ok (.invokestatic 85, 3) := by decide +kernel
theorem dX3_addCourse_7 : decode cX3_addCourse 7 = .ok (.ifCond .ne 34, 3) := by decide +kernel
theorem dX3_addCourse_10 : decode cX3_addCourse 10 = .ok (.iload_n 2, 1) := by decide +kernel
theorem dX3_addCourse_11 : decode cX3_addCourse 11 = .ok (.iconst 1, 1) := by decide +kernel
theorem dX3_addCourse_12 : decode cX3_addCourse 12 = .ok (.bipush 20, 2) := by decide +kernel
theorem dX3_addCourse_14 : decode cX3_addCourse 14 = .ok (.invokestatic 85, 3) := by decide +kernel
theorem dX3_addCourse_17 : decode cX3_addCourse 17 = .ok (.ifCond .ne 24, 3) := by decide +kernel
theorem dX3_addCourse_20 : decode cX3_addCourse 20 = .ok (.iload_n 3, 1) := by decide +kernel
theorem dX3_addCourse_21 : decode cX3_addCourse 21 = .ok (.iload_n 2, 1) := by decide +kernel
theorem dX3_addCourse_22 : decode cX3_addCourse 22 = .ok (.bipush 20, 2) := by decide +kernel
theorem dX3_addCourse_24 : decode cX3_addCourse 24 = .ok (.invokestatic 85, 3) := by decide +kernel
theorem dX3_addCourse_27 : decode cX3_addCourse 27 = .ok (.ifCond .ne 14, 3) := by decide +kernel
theorem dX3_addCourse_30 : decode cX3_addCourse 30 = .ok (.iload 4, 2) := by decide +kernel
theorem dX3_addCourse_32 : decode cX3_addCourse 32 = .ok (.iconst 0, 1) := by decide +kernel
theorem dX3_addCourse_33 : decode cX3_addCourse 33 = .ok (.bipush 99, 2) := by decide +kernel
theorem dX3_addCourse_35 : decode cX3_addCourse 35 = .ok (.invokestatic 85, 3) := by decide +kernel
theorem dX3_addCourse_38 : decode cX3_addCourse 38 = .ok (.ifCond .eq 6, 3) := by decide +kernel
theorem dX3_addCourse_41 : decode cX3_addCourse 41 = .ok (.ldc 89, 2) := by decide +kernel
theorem dX3_addCourse_43 : decode cX3_addCourse 43 = .ok (.ireturn, 1) := by decide +kernel
theorem dX3_addCourse_44 : decode cX3_addCourse 44 = .ok (.aload_n 0, 1) := by decide +kernel
theorem dX3_addCourse_45 : decode cX3_addCourse 45 = .ok (.getfield 63, 3) := by decide +kernel
theorem dX3_addCourse_48 : decode cX3_addCourse 48 = .ok (.ifCond .eq 6, 3) := by decide +kernel
theorem dX3_addCourse_51 : decode cX3_addCourse 51 = .ok (.ldc 90, 2) := by decide +kernel
theorem dX3_addCourse_53 : decode cX3_addCourse 53 = .ok (.ireturn, 1) := by decide +kernel
theorem dX3_addCourse_54 : decode cX3_addCourse 54 = .ok (.aload_n 0, 1) := by decide +kernel
theorem dX3_addCourse_55 : decode cX3_addCourse 55 = .ok (.getfield 50, 3) := by decide +kernel
theorem dX3_addCourse_58 : decode cX3_addCourse 58 = .ok (.iconst 0, 1) := by decide +kernel
theorem dX3_addCourse_59 : decode cX3_addCourse 59 = .ok (.aload_n 0, 1) := by decide +kernel
theorem dX3_addCourse_60 : decode cX3_addCourse 60 = .ok (.getfield 11, 3) := by decide +kernel
theorem dX3_addCourse_63 : decode cX3_addCourse 63 = .ok (.arraylength, 1) := by decide +kernel
theorem dX3_addCourse_64 : decode cX3_addCourse 64 = .ok (.iconst 1, 1) := by decide +kernel
theorem dX3_addCourse_65 : decode cX3_addCourse 65 = .ok (.isub, 1) := by decide +kernel
theorem dX3_addCourse_66 : decode cX3_addCourse 66 = .ok (.invokestatic 85, 3) := by decide +kernel
theorem dX3_addCourse_69 : decode cX3_addCourse 69 = .ok (.ifCond .eq 7, 3) := by decide +kernel
theorem dX3_addCourse_72 : decode cX3_addCourse 72 = .ok (.aconst_null, 1) := by decide +kernel
theorem dX3_addCourse_73 : decode cX3_addCourse 73 = .ok (.goto 12, 3) := by decide +kernel
theorem dX3_addCourse_76 : decode cX3_addCourse 76 = .ok (.aload_n 0, 1) := by decide +kernel
theorem dX3_addCourse_77 : decode cX3_addCourse 77 = .ok (.getfield 11, 3) := by decide +kernel
theorem dX3_addCourse_80 : decode cX3_addCourse 80 = .ok (.aload_n 0, 1) := by decide +kernel
theorem dX3_addCourse_81 : decode cX3_addCourse 81 = .ok (.getfield 50, 3) := by decide +kernel
theorem dX3_addCourse_84 : decode cX3_addCourse 84 = .ok (.aaload, 1) := by decide +kernel
theorem dX3_addCourse_85 : decode cX3_addCourse 85 = .ok (.astore 5, 2) := by decide +kernel
theorem dX3_addCourse_87 : decode cX3_addCourse 87 = .ok (.aload 5, 2) := by decide +kernel
theorem dX3_addCourse_89 : decode cX3_addCourse 89 = .ok (.ifnonnull 6, 3) := by decide +kernel
theorem dX3_addCourse_92 : decode cX3_addCourse 92 = .ok (.ldc 91, 2) := by decide +kernel
theorem dX3_addCourse_94 : decode cX3_addCourse 94 = .ok (.ireturn, 1) := by decide +kernel
theorem dX3_addCourse_95 : decode cX3_addCourse 95 = .ok (.aload 5, 2) := by decide +kernel
theorem dX3_addCourse_97 : decode cX3_addCourse 97 = .ok (.iload_n 1, 1) := by decide +kernel
theorem dX3_addCourse_98 : decode cX3_addCourse 98 = .ok (.iload_n 2, 1) := by decide +kernel
theorem dX3_addCourse_99 : decode cX3_addCourse 99 = .ok (.iload_n 3, 1) := by decide +kernel
theorem dX3_addCourse_100 : decode cX3_addCourse 100 = .ok (.iload 4, 2) := by decide +kernel
theorem dX3_addCourse_102 : decode cX3_addCourse 102 = .ok (.invokevirtual 92, 3) := by decide +kernel
theorem dX3_addCourse_105 : decode cX3_addCourse 105 = .ok (.aload_n 0, 1) := by decide +kernel
theorem dX3_addCourse_106 : decode cX3_addCourse 106 = .ok (.dup, 1) := by decide +kernel
theorem dX3_addCourse_107 : decode cX3_addCourse 107 = .ok (.getfield 50, 3) := by decide +kernel
theorem dX3_addCourse_110 : decode cX3_addCourse 110 = .ok (.iconst 1, 1) := by decide +kernel
theorem dX3_addCourse_111 : decode cX3_addCourse 111 = .ok (.iadd, 1) := by decide +kernel
theorem dX3_addCourse_112 : decode cX3_addCourse 112 = .ok (.putfield 50, 3) := by decide +kernel
theorem dX3_addCourse_115 : decode cX3_addCourse 115 = .ok (.aload 5, 2) := by decide +kernel
theorem dX3_addCourse_117 : decode cX3_addCourse 117 = .ok (.getfield 96, 3) := by decide +kernel
theorem dX3_addCourse_120 : decode cX3_addCourse 120 = .ok (.ireturn, 1) := by decide +kernel
theorem dX3_addRoom_0 : decode cX3_addRoom 0 = .ok (.iload_n 1, 1) := by decide +kernel
theorem dX3_addRoom_1 : decode cX3_addRoom 1 = .ok (.iconst 1, 1) := by decide +kernel
theorem dX3_addRoom_2 : decode cX3_addRoom 2 = .ok (.bipush 30, 2) := by decide +kernel
theorem dX3_addRoom_4 : decode cX3_addRoom 4 = .ok (.invokestatic 85, 3) := by decide +kernel
theorem dX3_addRoom_7 : decode cX3_addRoom 7 = .ok (.ifCond .eq 6, 3) := by decide +kernel
theorem dX3_addRoom_10 : decode cX3_addRoom 10 = .ok (.ldc 89, 2) := by decide +kernel
theorem dX3_addRoom_12 : decode cX3_addRoom 12 = .ok (.ireturn, 1) := by decide +kernel
theorem dX3_addRoom_13 : decode cX3_addRoom 13 = .ok (.aload_n 0, 1) := by decide +kernel
theorem dX3_addRoom_14 : decode cX3_addRoom 14 = .ok (.getfield 63, 3) := by decide +kernel
theorem dX3_addRoom_17 : decode cX3_addRoom 17 = .ok (.ifCond .eq 6, 3) := by decide +kernel
theorem dX3_addRoom_20 : decode cX3_addRoom 20 = .ok (.ldc 90, 2) := by decide +kernel
theorem dX3_addRoom_22 : decode cX3_addRoom 22 = .ok (.ireturn, 1) := by decide +kernel
theorem dX3_addRoom_23 : decode cX3_addRoom 23 = .ok (.aload_n 0, 1) := by decide +kernel
theorem dX3_addRoom_24 : decode cX3_addRoom 24 = .ok (.getfield 57, 3) := by decide +kernel
theorem dX3_addRoom_27 : decode cX3_addRoom 27 = .ok (.iconst 0, 1) := by decide +kernel
theorem dX3_addRoom_28 : decode cX3_addRoom 28 = .ok (.aload_n 0, 1) := by decide +kernel
theorem dX3_addRoom_29 : decode cX3_addRoom 29 = .ok (.getfield 23, 3) := by decide +kernel
theorem dX3_addRoom_32 : decode cX3_addRoom 32 = .ok (.arraylength, 1) := by decide +kernel
theorem dX3_addRoom_33 : decode cX3_addRoom 33 = .ok (.iconst 1, 1) := by decide +kernel
theorem dX3_addRoom_34 : decode cX3_addRoom 34 = .ok (.isub, 1) := by decide +kernel
theorem dX3_addRoom_35 : decode cX3_addRoom 35 = .ok (.invokestatic 85, 3) := by decide +kernel
theorem dX3_addRoom_38 : decode cX3_addRoom 38 = .ok (.ifCond .eq 6, 3) := by decide +kernel
theorem dX3_addRoom_41 : decode cX3_addRoom 41 = .ok (.ldc 91, 2) := by decide +kernel
theorem dX3_addRoom_43 : decode cX3_addRoom 43 = .ok (.ireturn, 1) := by decide +kernel
theorem dX3_addRoom_44 : decode cX3_addRoom 44 = .ok (.aload_n 0, 1) := by decide +kernel
theorem dX3_addRoom_45 : decode cX3_addRoom 45 = .ok (.getfield 23, 3) := by decide +kernel
theorem dX3_addRoom_48 : decode cX3_addRoom 48 = .ok (.aload_n 0, 1) := by decide +kernel
theorem dX3_addRoom_49 : decode cX3_addRoom 49 = .ok (.getfield 57, 3) := by decide +kernel
theorem dX3_addRoom_52 : decode cX3_addRoom 52 = .ok (.iload_n 1, 1) := by decide +kernel
theorem dX3_addRoom_53 : decode cX3_addRoom 53 = .ok (.iastore, 1) := by decide +kernel
theorem dX3_addRoom_54 : decode cX3_addRoom 54 = .ok (.aload_n 0, 1) := by decide +kernel
theorem dX3_addRoom_55 : decode cX3_addRoom 55 = .ok (.dup, 1) := by decide +kernel
theorem dX3_addRoom_56 : decode cX3_addRoom 56 = .ok (.getfield 57, 3) := by decide +kernel
theorem dX3_addRoom_59 : decode cX3_addRoom 59 = .ok (.iconst 1, 1) := by decide +kernel
theorem dX3_addRoom_60 : decode cX3_addRoom 60 = .ok (.iadd, 1) := by decide +kernel
theorem dX3_addRoom_61 : decode cX3_addRoom 61 = .ok (.putfield 57, 3) := by decide +kernel
theorem dX3_addRoom_64 : decode cX3_addRoom 64 = .ok (.aload_n 0, 1) := by decide +kernel
theorem dX3_addRoom_65 : decode cX3_addRoom 65 = .ok (.getfield 57, 3) := by decide +kernel
theorem dX3_addRoom_68 : decode cX3_addRoom 68 = .ok (.iconst 1, 1) := by decide +kernel
theorem dX3_addRoom_69 : decode cX3_addRoom 69 = .ok (.isub, 1) := by decide +kernel
theorem dX3_addRoom_70 : decode cX3_addRoom 70 = .ok (.ireturn, 1) := by decide +kernel
theorem dX3_addPerson_0 : decode cX3_addPerson 0 = .ok (.aload_n 0, 1) := by decide +kernel
theorem dX3_addPerson_1 : decode cX3_addPerson 1 = .ok (.iload_n 1, 1) := by decide +kernel
theorem dX3_addPerson_2 : decode cX3_addPerson 2 = .ok (.iload_n 2, 1) := by decide +kernel
theorem dX3_addPerson_3 : decode cX3_addPerson 3 = .ok (.iload_n 3, 1) := by decide +kernel
theorem dX3_addPerson_4 : decode cX3_addPerson 4 = .ok (.invokevirtual 97, 3) := by decide +kernel
theorem dX3_addPerson_7 : decode cX3_addPerson 7 = .ok (.ifCond .ne 6, 3) := by decide +kernel
theorem dX3_addPerson_10 : decode cX3_addPerson 10 = .ok (.ldc 89, 2) := by decide +kernel
theorem dX3_addPerson_12 : decode cX3_addPerson 12 = .ok (.ireturn, 1) := by decide +kernel
theorem dX3_addPerson_13 : decode cX3_addPerson 13 = .ok (.aload_n 0, 1) := by decide +kernel
theorem dX3_addPerson_14 : decode cX3_addPerson 14 = .ok (.getfield 63, 3) := by decide +kernel
theorem dX3_addPerson_17 : decode cX3_addPerson 17 = .ok (.ifCond .eq 6, 3) := by decide +kernel
theorem dX3_addPerson_20 : decode cX3_addPerson 20 = .ok (.ldc 90, 2) := by decide +kernel
theorem dX3_addPerson_22 : decode cX3_addPerson 22 = .ok (.ireturn, 1) := by decide +kernel
theorem dX3_addPerson_23 : decode cX3_addPerson 23 = .ok (.aload_n 0, 1) := by decide +kernel
theorem dX3_addPerson_24 : decode cX3_addPerson 24 = .ok (.getfield 54, 3) := by decide +kernel
theorem dX3_addPerson_27 : decode cX3_addPerson 27 = .ok (.iconst 0, 1) := by decide +kernel
theorem dX3_addPerson_28 : decode cX3_addPerson 28 = .ok (.aload_n 0, 1) := by decide +kernel
theorem dX3_addPerson_29 : decode cX3_addPerson 29 = .ok (.getfield 19, 3) := by decide +kernel
theorem dX3_addPerson_32 : decode cX3_addPerson 32 = .ok (.arraylength, 1) := by decide +kernel
theorem dX3_addPerson_33 : decode cX3_addPerson 33 = .ok (.iconst 1, 1) := by decide +kernel
theorem dX3_addPerson_34 : decode cX3_addPerson 34 = .ok (.isub, 1) := by decide +kernel
theorem dX3_addPerson_35 : decode cX3_addPerson 35 = .ok (.invokestatic 85, 3) := by decide +kernel
theorem dX3_addPerson_38 : decode cX3_addPerson 38 = .ok (.ifCond .eq 7, 3) := by decide +kernel
theorem dX3_addPerson_41 : decode cX3_addPerson 41 = .ok (.aconst_null, 1) := by decide +kernel
theorem dX3_addPerson_42 : decode cX3_addPerson 42 = .ok (.goto 12, 3) := by decide +kernel
theorem dX3_addPerson_45 : decode cX3_addPerson 45 = .ok (.aload_n 0, 1) := by decide +kernel
theorem dX3_addPerson_46 : decode cX3_addPerson 46 = .ok (.getfield 19, 3) := by decide +kernel
theorem dX3_addPerson_49 : decode cX3_addPerson 49 = .ok (.aload_n 0, 1) := by decide +kernel
theorem dX3_addPerson_50 : decode cX3_addPerson 50 = .ok (.getfield 54, 3) := by decide +kernel
theorem dX3_addPerson_53 : decode cX3_addPerson 53 = .ok (.aaload, 1) := by decide +kernel
theorem dX3_addPerson_54 : decode cX3_addPerson 54 = .ok (.astore 4, 2) := by decide +kernel
theorem dX3_addPerson_56 : decode cX3_addPerson 56 = .ok (.aload 4, 2) := by decide +kernel
theorem dX3_addPerson_58 : decode cX3_addPerson 58 = .ok (.ifnonnull 6, 3) := by decide +kernel
theorem dX3_addPerson_61 : decode cX3_addPerson 61 = .ok (.ldc 91, 2) := by decide +kernel
theorem dX3_addPerson_63 : decode cX3_addPerson 63 = .ok (.ireturn, 1) := by decide +kernel
theorem dX3_addPerson_64 : decode cX3_addPerson 64 = .ok (.aload 4, 2) := by decide +kernel
theorem dX3_addPerson_66 : decode cX3_addPerson 66 = .ok (.iload_n 1, 1) := by decide +kernel
theorem dX3_addPerson_67 : decode cX3_addPerson 67 = .ok (.iload_n 2, 1) := by decide +kernel
theorem dX3_addPerson_68 : decode cX3_addPerson 68 = .ok (.iload_n 3, 1) := by decide +kernel
theorem dX3_addPerson_69 : decode cX3_addPerson 69 = .ok (.invokevirtual 100, 3) := by decide +kernel
theorem dX3_addPerson_72 : decode cX3_addPerson 72 = .ok (.aload 4, 2) := by decide +kernel
theorem dX3_addPerson_74 : decode cX3_addPerson 74 = .ok (.iconst 1, 1) := by decide +kernel
theorem dX3_addPerson_75 : decode cX3_addPerson 75 = .ok (.putfield 104, 3) := by decide +kernel
theorem dX3_addPerson_78 : decode cX3_addPerson 78 = .ok (.aload_n 0, 1) := by decide +kernel
theorem dX3_addPerson_79 : decode cX3_addPerson 79 = .ok (.dup, 1) := by decide +kernel
theorem dX3_addPerson_80 : decode cX3_addPerson 80 = .ok (.getfield 54, 3) := by decide +kernel
theorem dX3_addPerson_83 : decode cX3_addPerson 83 = .ok (.iconst 1, 1) := by decide +kernel
theorem dX3_addPerson_84 : decode cX3_addPerson 84 = .ok (.iadd, 1) := by decide +kernel
theorem dX3_addPerson_85 : decode cX3_addPerson 85 = .ok (.putfield 54, 3) := by decide +kernel
theorem dX3_addPerson_88 : decode cX3_addPerson 88 = .ok (.aload_n 0, 1) := by decide +kernel
theorem dX3_addPerson_89 : decode cX3_addPerson 89 = .ok (.invokevirtual 107, 3) := by decide +kernel
theorem dX3_addPerson_92 : decode cX3_addPerson 92 = .ok (.aload 4, 2) := by decide +kernel
theorem dX3_addPerson_94 : decode cX3_addPerson 94 = .ok (.getfield 110, 3) := by decide +kernel
theorem dX3_addPerson_97 : decode cX3_addPerson 97 = .ok (.ireturn, 1) := by decide +kernel
theorem dX3_changeWishes_0 : decode cX3_changeWishes 0 = .ok (.aload_n 0, 1) := by decide +kernel
theorem dX3_changeWishes_1 : decode cX3_changeWishes 1 = .ok (.iload_n 1, 1) := by decide +kernel
theorem dX3_changeWishes_2 : decode cX3_changeWishes 2 = .ok (.invokevirtual 111, 3) := by decide +kernel
theorem dX3_changeWishes_5 : decode cX3_changeWishes 5 = .ok (.astore 5, 2) := by decide +kernel
theorem dX3_changeWishes_7 : decode cX3_changeWishes 7 = .ok (.aload 5, 2) := by decide +kernel
theorem dX3_changeWishes_9 : decode cX3_changeWishes 9 = .ok (.ifnull 14, 3) := by decide +kernel
theorem dX3_changeWishes_12 : decode cX3_changeWishes 12 = .ok (.aload_n 0, 1) := by decide +kernel
theorem dX3_changeWishes_13 : decode cX3_changeWishes 13 = .ok (.iload_n 2, 1) := by decide +kernel
theorem dX3_changeWishes_14 : decode cX3_changeWishes 14 = .ok (.iload_n 3, 1) := by decide +kernel
theorem dX3_changeWishes_15 : decode cX3_changeWishes 15 = .ok (.iload 4, 2) := by decide +kernel
theorem dX3_changeWishes_17 : decode cX3_changeWishes 17 = .ok (.invokevirtual 97, 3) := by decide +kernel
theorem dX3_changeWishes_20 : decode cX3_changeWishes 20 = .ok (.ifCond .ne 6, 3) := by decide +kernel
theorem dX3_changeWishes_23 : decode cX3_changeWishes 23 = .ok (.ldc 89, 2) := by decide +kernel
theorem dX3_changeWishes_25 : decode cX3_changeWishes 25 = .ok (.ireturn, 1) := by decide +kernel
theorem dX3_changeWishes_26 : decode cX3_changeWishes 26 = .ok (.aload_n 0, 1) := by decide +kernel
theorem dX3_changeWishes_27 : decode cX3_changeWishes 27 = .ok (.getfield 63, 3) := by decide +kernel
theorem dX3_changeWishes_30 : decode cX3_changeWishes 30 = .ok (.ifCond .ne 11, 3) := by decide +kernel
theorem dX3_changeWishes_33 : decode cX3_changeWishes 33 = .ok (.aload 5, 2) := by decide +kernel
theorem dX3_changeWishes_35 : decode cX3_changeWishes 35 = .ok (.getfield 104, 3) := by decide +kernel
theorem dX3_changeWishes_38 : decode cX3_changeWishes 38 = .ok (.ifCond .ne 6, 3) := by decide +kernel
theorem dX3_changeWishes_41 : decode cX3_changeWishes 41 = .ok (.ldc 90, 2) := by decide +kernel
theorem dX3_changeWishes_43 : decode cX3_changeWishes 43 = .ok (.ireturn, 1) := by decide +kernel
theorem dX3_changeWishes_44 : decode cX3_changeWishes 44 = .ok (.aload 5, 2) := by decide +kernel
theorem dX3_changeWishes_46 : decode cX3_changeWishes 46 = .ok (.iload_n 2, 1) := by decide +kernel
theorem dX3_changeWishes_47 : decode cX3_changeWishes 47 = .ok (.iload_n 3, 1) := by decide +kernel
theorem dX3_changeWishes_48 : decode cX3_changeWishes 48 = .ok (.iload 4, 2) := by decide +kernel
theorem dX3_changeWishes_50 : decode cX3_changeWishes 50 = .ok (.invokevirtual 100, 3) := by decide +kernel
theorem dX3_changeWishes_53 : decode cX3_changeWishes 53 = .ok (.aload_n 0, 1) := by decide +kernel
theorem dX3_changeWishes_54 : decode cX3_changeWishes 54 = .ok (.invokevirtual 107, 3) := by decide +kernel
theorem dX3_changeWishes_57 : decode cX3_changeWishes 57 = .ok (.aload 5, 2) := by decide +kernel
theorem dX3_changeWishes_59 : decode cX3_changeWishes 59 = .ok (.invokevirtual 115, 3) := by decide +kernel
theorem dX3_changeWishes_62 : decode cX3_changeWishes 62 = .ok (.ireturn, 1) := by decide +kernel
theorem dX3_sendAway_0 : decode cX3_sendAway 0 = .ok (.aload_n 0, 1) := by decide +kernel
theorem dX3_sendAway_1 : decode cX3_sendAway 1 = .ok (.iload_n 1, 1) := by decide +kernel
theorem dX3_sendAway_2 : decode cX3_sendAway 2 = .ok (.invokevirtual 111, 3) := by decide +kernel
theorem dX3_sendAway_5 : decode cX3_sendAway 5 = .ok (.astore_n 2, 1) := by decide +kernel
theorem dX3_sendAway_6 : decode cX3_sendAway 6 = .ok (.aload_n 2, 1) := by decide +kernel
theorem dX3_sendAway_7 : decode cX3_sendAway 7 = .ok (.ifnonnull 6, 3) := by decide +kernel
theorem dX3_sendAway_10 : decode cX3_sendAway 10 = .ok (.ldc 89, 2) := by decide +kernel
theorem dX3_sendAway_12 : decode cX3_sendAway 12 = .ok (.ireturn, 1) := by decide +kernel
theorem dX3_sendAway_13 : decode cX3_sendAway 13 = .ok (.aload_n 0, 1) := by decide +kernel
theorem dX3_sendAway_14 : decode cX3_sendAway 14 = .ok (.getfield 63, 3) := by decide +kernel
theorem dX3_sendAway_17 : decode cX3_sendAway 17 = .ok (.ifCond .ne 10, 3) := by decide +kernel
theorem dX3_sendAway_20 : decode cX3_sendAway 20 = .ok (.aload_n 2, 1) := by decide +kernel
theorem dX3_sendAway_21 : decode cX3_sendAway 21 = .ok (.getfield 104, 3) := by decide +kernel
theorem dX3_sendAway_24 : decode cX3_sendAway 24 = .ok (.ifCond .ne 6, 3) := by decide +kernel
theorem dX3_sendAway_27 : decode cX3_sendAway 27 = .ok (.ldc 90, 2) := by decide +kernel
theorem dX3_sendAway_29 : decode cX3_sendAway 29 = .ok (.ireturn, 1) := by decide +kernel
theorem dX3_sendAway_30 : decode cX3_sendAway 30 = .ok (.aload_n 2, 1) := by decide +kernel
theorem dX3_sendAway_31 : decode cX3_sendAway 31 = .ok (.getfield 119, 3) := by decide +kernel
theorem dX3_sendAway_34 : decode cX3_sendAway 34 = .ok (.istore_n 3, 1) := by decide +kernel
theorem dX3_sendAway_35 : decode cX3_sendAway 35 = .ok (.aload_n 2, 1) := by decide +kernel
theorem dX3_sendAway_36 : decode cX3_sendAway 36 = .ok (.iconst 0, 1) := by decide +kernel
theorem dX3_sendAway_37 : decode cX3_sendAway 37 = .ok (.putfield 104, 3) := by decide +kernel
theorem dX3_sendAway_40 : decode cX3_sendAway 40 = .ok (.aload_n 0, 1) := by decide +kernel
theorem dX3_sendAway_41 : decode cX3_sendAway 41 = .ok (.aload_n 2, 1) := by decide +kernel
theorem dX3_sendAway_42 : decode cX3_sendAway 42 = .ok (.invokevirtual 120, 3) := by decide +kernel
theorem dX3_sendAway_45 : decode cX3_sendAway 45 = .ok (.aload_n 0, 1) := by decide +kernel
theorem dX3_sendAway_46 : decode cX3_sendAway 46 = .ok (.invokevirtual 107, 3) := by decide +kernel
theorem dX3_sendAway_49 : decode cX3_sendAway 49 = .ok (.iload_n 3, 1) := by decide +kernel
theorem dX3_sendAway_50 : decode cX3_sendAway 50 = .ok (.ireturn, 1) := by decide +kernel
theorem dX3_areWishes_0 : decode cX3_areWishes 0 = .ok (.aload_n 0, 1) := by decide +kernel
theorem dX3_areWishes_1 : decode cX3_areWishes 1 = .ok (.iload_n 1, 1) := by decide +kernel
theorem dX3_areWishes_2 : decode cX3_areWishes 2 = .ok (.invokevirtual 123, 3) := by decide +kernel
theorem dX3_areWishes_5 : decode cX3_areWishes 5 = .ok (.ifnonnull 5, 3) := by decide +kernel
theorem dX3_areWishes_8 : decode cX3_areWishes 8 = .ok (.iconst 0, 1) := by decide +kernel
theorem dX3_areWishes_9 : decode cX3_areWishes 9 = .ok (.ireturn, 1) := by decide +kernel
theorem dX3_areWishes_10 : decode cX3_areWishes 10 = .ok (.iload_n 2, 1) := by decide +kernel
theorem dX3_areWishes_11 : decode cX3_areWishes 11 = .ok (.iconst (-1), 1) := by decide +kernel
theorem dX3_areWishes_12 : decode cX3_areWishes 12 = .ok (.if_icmp .ne 14, 3) := by decide +kernel
theorem dX3_areWishes_15 : decode cX3_areWishes 15 = .ok (.iload_n 3, 1) := by decide +kernel
theorem dX3_areWishes_16 : decode cX3_areWishes 16 = .ok (.iconst (-1), 1) := by decide +kernel
theorem dX3_areWishes_17 : decode cX3_areWishes 17 = .ok (.if_icmp .ne 7, 3) := by decide +kernel
theorem dX3_areWishes_20 : decode cX3_areWishes 20 = .ok (.iconst 1, 1) := by decide +kernel
theorem dX3_areWishes_21 : decode cX3_areWishes 21 = .ok (.goto 4, 3) := by decide +kernel
theorem dX3_areWishes_24 : decode cX3_areWishes 24 = .ok (.iconst 0, 1) := by decide +kernel
theorem dX3_areWishes_25 : decode cX3_areWishes 25 = .ok (.ireturn, 1) := by decide +kernel
theorem dX3_areWishes_26 : decode cX3_areWishes 26 = .ok (.aload_n 0, 1) := by decide +kernel
theorem dX3_areWishes_27 : decode cX3_areWishes 27 = .ok (.iload_n 2, 1) := by decide +kernel
theorem dX3_areWishes_28 : decode cX3_areWishes 28 = .ok (.invokevirtual 123, 3) := by decide +kernel
theorem dX3_areWishes_31 : decode cX3_areWishes 31 = .ok (.ifnull 8, 3) := by decide +kernel
theorem dX3_areWishes_34 : decode cX3_areWishes 34 = .ok (.iload_n 2, 1) := by decide +kernel
theorem dX3_areWishes_35 : decode cX3_areWishes 35 = .ok (.iload_n 1, 1) := by decide +kernel
theorem dX3_areWishes_36 : decode cX3_areWishes 36 = .ok (.if_icmp .ne 5, 3) := by decide +kernel
theorem dX3_areWishes_39 : decode cX3_areWishes 39 = .ok (.iconst 0, 1) := by decide +kernel
theorem dX3_areWishes_40 : decode cX3_areWishes 40 = .ok (.ireturn, 1) := by decide +kernel
theorem dX3_areWishes_41 : decode cX3_areWishes 41 = .ok (.iload_n 3, 1) := by decide +kernel
theorem dX3_areWishes_42 : decode cX3_areWishes 42 = .ok (.iconst (-1), 1) := by decide +kernel
theorem dX3_areWishes_43 : decode cX3_areWishes 43 = .ok (.if_icmp .eq 21, 3) := by decide +kernel
theorem dX3_areWishes_46 : decode cX3_areWishes 46 = .ok (.aload_n 0, 1) := by decide +kernel
theorem dX3_areWishes_47 : decode cX3_areWishes 47 = .ok (.iload_n 3, 1) := by decide +kernel
theorem dX3_areWishes_48 : decode cX3_areWishes 48 = .ok (.invokevirtual 123, 3) := by decide +kernel
theorem dX3_areWishes_51 : decode cX3_areWishes 51 = .ok (.ifnull 17, 3) := by decide +kernel
theorem dX3_areWishes_54 : decode cX3_areWishes 54 = .ok (.iload_n 3, 1) := by decide +kernel
theorem dX3_areWishes_55 : decode cX3_areWishes 55 = .ok (.iload_n 1, 1) := by decide +kernel
theorem dX3_areWishes_56 : decode cX3_areWishes 56 = .ok (.if_icmp .eq 12, 3) := by decide +kernel
theorem dX3_areWishes_59 : decode cX3_areWishes 59 = .ok (.iload_n 3, 1) := by decide +kernel
theorem dX3_areWishes_60 : decode cX3_areWishes 60 = .ok (.iload_n 2, 1) := by decide +kernel
theorem dX3_areWishes_61 : decode cX3_areWishes 61 = .ok (.if_icmp .eq 7, 3) := by decide +kernel
theorem dX3_areWishes_64 : decode cX3_areWishes 64 = .ok (.iconst 1, 1) := by decide +kernel
theorem dX3_areWishes_65 : decode cX3_areWishes 65 = .ok (.goto 4, 3) := by decide +kernel
theorem dX3_areWishes_68 : decode cX3_areWishes 68 = .ok (.iconst 0, 1) := by decide +kernel
theorem dX3_areWishes_69 : decode cX3_areWishes 69 = .ok (.ireturn, 1) := by decide +kernel
theorem dX3_closeTerm_0 : decode cX3_closeTerm 0 = .ok (.aload_n 0, 1) := by decide +kernel
theorem dX3_closeTerm_1 : decode cX3_closeTerm 1 = .ok (.getfield 63, 3) := by decide +kernel
theorem dX3_closeTerm_4 : decode cX3_closeTerm 4 = .ok (.ifCond .eq 6, 3) := by decide +kernel
theorem dX3_closeTerm_7 : decode cX3_closeTerm 7 = .ok (.ldc 90, 2) := by decide +kernel
theorem dX3_closeTerm_9 : decode cX3_closeTerm 9 = .ok (.ireturn, 1) := by decide +kernel
theorem dX3_closeTerm_10 : decode cX3_closeTerm 10 = .ok (.iconst 0, 1) := by decide +kernel
theorem dX3_closeTerm_11 : decode cX3_closeTerm 11 = .ok (.istore_n 1, 1) := by decide +kernel
theorem dX3_closeTerm_12 : decode cX3_closeTerm 12 = .ok (.iload_n 1, 1) := by decide +kernel
theorem dX3_closeTerm_13 : decode cX3_closeTerm 13 = .ok (.aload_n 0, 1) := by decide +kernel
theorem dX3_closeTerm_14 : decode cX3_closeTerm 14 = .ok (.getfield 11, 3) := by decide +kernel
theorem dX3_closeTerm_17 : decode cX3_closeTerm 17 = .ok (.arraylength, 1) := by decide +kernel
theorem dX3_closeTerm_18 : decode cX3_closeTerm 18 = .ok (.if_icmp .ge 50, 3) := by decide +kernel
theorem dX3_closeTerm_21 : decode cX3_closeTerm 21 = .ok (.aload_n 0, 1) := by decide +kernel
theorem dX3_closeTerm_22 : decode cX3_closeTerm 22 = .ok (.invokevirtual 127, 3) := by decide +kernel
theorem dX3_closeTerm_25 : decode cX3_closeTerm 25 = .ok (.astore_n 2, 1) := by decide +kernel
theorem dX3_closeTerm_26 : decode cX3_closeTerm 26 = .ok (.aload_n 2, 1) := by decide +kernel
theorem dX3_closeTerm_27 : decode cX3_closeTerm 27 = .ok (.ifnonnull 6, 3) := by decide +kernel
theorem dX3_closeTerm_30 : decode cX3_closeTerm 30 = .ok (.goto 38, 3) := by decide +kernel
theorem dX3_closeTerm_33 : decode cX3_closeTerm 33 = .ok (.aload_n 0, 1) := by decide +kernel
theorem dX3_closeTerm_34 : decode cX3_closeTerm 34 = .ok (.aload_n 2, 1) := by decide +kernel
theorem dX3_closeTerm_35 : decode cX3_closeTerm 35 = .ok (.invokevirtual 131, 3) := by decide +kernel
theorem dX3_closeTerm_38 : decode cX3_closeTerm 38 = .ok (.astore_n 3, 1) := by decide +kernel
theorem dX3_closeTerm_39 : decode cX3_closeTerm 39 = .ok (.aload_n 3, 1) := by decide +kernel
theorem dX3_closeTerm_40 : decode cX3_closeTerm 40 = .ok (.ifnonnull 12, 3) := by decide +kernel
theorem dX3_closeTerm_43 : decode cX3_closeTerm 43 = .ok (.aload_n 0, 1) := by decide +kernel
theorem dX3_closeTerm_44 : decode cX3_closeTerm 44 = .ok (.aload_n 2, 1) := by decide +kernel
theorem dX3_closeTerm_45 : decode cX3_closeTerm 45 = .ok (.iconst 2, 1) := by decide +kernel
theorem dX3_closeTerm_46 : decode cX3_closeTerm 46 = .ok (.invokevirtual 135, 3) := by decide +kernel
theorem dX3_closeTerm_49 : decode cX3_closeTerm 49 = .ok (.goto 9, 3) := by decide +kernel
theorem dX3_closeTerm_52 : decode cX3_closeTerm 52 = .ok (.aload_n 0, 1) := by decide +kernel
theorem dX3_closeTerm_53 : decode cX3_closeTerm 53 = .ok (.aload_n 2, 1) := by decide +kernel
theorem dX3_closeTerm_54 : decode cX3_closeTerm 54 = .ok (.aload_n 3, 1) := by decide +kernel
theorem dX3_closeTerm_55 : decode cX3_closeTerm 55 = .ok (.invokevirtual 139, 3) := by decide +kernel
theorem dX3_closeTerm_58 : decode cX3_closeTerm 58 = .ok (.aload_n 0, 1) := by decide +kernel
theorem dX3_closeTerm_59 : decode cX3_closeTerm 59 = .ok (.invokevirtual 107, 3) := by decide +kernel
theorem dX3_closeTerm_62 : decode cX3_closeTerm 62 = .ok (.iinc 1 1, 3) := by decide +kernel
theorem dX3_closeTerm_65 : decode cX3_closeTerm 65 = .ok (.goto (-53), 3) := by decide +kernel
theorem dX3_closeTerm_68 : decode cX3_closeTerm 68 = .ok (.iconst 0, 1) := by decide +kernel
theorem dX3_closeTerm_69 : decode cX3_closeTerm 69 = .ok (.istore_n 1, 1) := by decide +kernel
theorem dX3_closeTerm_70 : decode cX3_closeTerm 70 = .ok (.iload_n 1, 1) := by decide +kernel
theorem dX3_closeTerm_71 : decode cX3_closeTerm 71 = .ok (.aload_n 0, 1) := by decide +kernel
theorem dX3_closeTerm_72 : decode cX3_closeTerm 72 = .ok (.getfield 11, 3) := by decide +kernel
theorem dX3_closeTerm_75 : decode cX3_closeTerm 75 = .ok (.arraylength, 1) := by decide +kernel
theorem dX3_closeTerm_76 : decode cX3_closeTerm 76 = .ok (.if_icmp .ge 35, 3) := by decide +kernel
theorem dX3_closeTerm_79 : decode cX3_closeTerm 79 = .ok (.aload_n 0, 1) := by decide +kernel
theorem dX3_closeTerm_80 : decode cX3_closeTerm 80 = .ok (.invokevirtual 143, 3) := by decide +kernel
theorem dX3_closeTerm_83 : decode cX3_closeTerm 83 = .ok (.astore_n 2, 1) := by decide +kernel
theorem dX3_closeTerm_84 : decode cX3_closeTerm 84 = .ok (.aload_n 2, 1) := by decide +kernel
theorem dX3_closeTerm_85 : decode cX3_closeTerm 85 = .ok (.ifnonnull 6, 3) := by decide +kernel
theorem dX3_closeTerm_88 : decode cX3_closeTerm 88 = .ok (.goto 23, 3) := by decide +kernel
theorem dX3_closeTerm_91 : decode cX3_closeTerm 91 = .ok (.aload_n 0, 1) := by decide +kernel
theorem dX3_closeTerm_92 : decode cX3_closeTerm 92 = .ok (.aload_n 2, 1) := by decide +kernel
theorem dX3_closeTerm_93 : decode cX3_closeTerm 93 = .ok (.invokevirtual 146, 3) := by decide +kernel
theorem dX3_closeTerm_96 : decode cX3_closeTerm 96 = .ok (.ifCond .ne 9, 3) := by decide +kernel
theorem dX3_closeTerm_99 : decode cX3_closeTerm 99 = .ok (.aload_n 0, 1) := by decide +kernel
theorem dX3_closeTerm_100 : decode cX3_closeTerm 100 = .ok (.aload_n 2, 1) := by decide +kernel
theorem dX3_closeTerm_101 : decode cX3_closeTerm 101 = .ok (.iconst 3, 1) := by decide +kernel
theorem dX3_closeTerm_102 : decode cX3_closeTerm 102 = .ok (.invokevirtual 135, 3) := by decide +kernel
theorem dX3_closeTerm_105 : decode cX3_closeTerm 105 = .ok (.iinc 1 1, 3) := by decide +kernel
theorem dX3_closeTerm_108 : decode cX3_closeTerm 108 = .ok (.goto (-38), 3) := by decide +kernel
theorem dX3_closeTerm_111 : decode cX3_closeTerm 111 = .ok (.aload_n 0, 1) := by decide +kernel
theorem dX3_closeTerm_112 : decode cX3_closeTerm 112 = .ok (.iconst 1, 1) := by decide +kernel
theorem dX3_closeTerm_113 : decode cX3_closeTerm 113 = .ok (.putfield 63, 3) := by decide +kernel
theorem dX3_closeTerm_116 : decode cX3_closeTerm 116 = .ok (.aload_n 0, 1) := by decide +kernel
theorem dX3_closeTerm_117 : decode cX3_closeTerm 117 = .ok (.iconst 1, 1) := by decide +kernel
theorem dX3_closeTerm_118 : decode cX3_closeTerm 118 = .ok (.invokevirtual 150, 3) := by decide +kernel
theorem dX3_closeTerm_121 : decode cX3_closeTerm 121 = .ok (.invokestatic 154, 3) := by decide +kernel
theorem dX3_closeTerm_124 : decode cX3_closeTerm 124 = .ok (.ireturn, 1) := by decide +kernel
theorem dX3_beginNextTerm_0 : decode cX3_beginNextTerm 0 = .ok (.aload_n 0, 1) := by decide +kernel
theorem dX3_beginNextTerm_1 : decode cX3_beginNextTerm 1 = .ok (.getfield 63, 3) := by decide +kernel
theorem dX3_beginNextTerm_4 : decode cX3_beginNextTerm 4 = .ok (.ifCond .ne 6, 3) := by decide +kernel
theorem dX3_beginNextTerm_7 : decode cX3_beginNextTerm 7 = .ok (.ldc 90, 2) := by decide +kernel
theorem dX3_beginNextTerm_9 : decode cX3_beginNextTerm 9 = .ok (.ireturn, 1) := by decide +kernel
theorem dX3_beginNextTerm_10 : decode cX3_beginNextTerm 10 = .ok (.aload_n 0, 1) := by decide +kernel
theorem dX3_beginNextTerm_11 : decode cX3_beginNextTerm 11 = .ok (.dup, 1) := by decide +kernel
theorem dX3_beginNextTerm_12 : decode cX3_beginNextTerm 12 = .ok (.getfield 73, 3) := by decide +kernel
theorem dX3_beginNextTerm_15 : decode cX3_beginNextTerm 15 = .ok (.aload_n 0, 1) := by decide +kernel
theorem dX3_beginNextTerm_16 : decode cX3_beginNextTerm 16 = .ok (.invokevirtual 159, 3) := by decide +kernel
theorem dX3_beginNextTerm_19 : decode cX3_beginNextTerm 19 = .ok (.iadd, 1) := by decide +kernel
theorem dX3_beginNextTerm_20 : decode cX3_beginNextTerm 20 = .ok (.putfield 73, 3) := by decide +kernel
theorem dX3_beginNextTerm_23 : decode cX3_beginNextTerm 23 = .ok (.aload_n 0, 1) := by decide +kernel
theorem dX3_beginNextTerm_24 : decode cX3_beginNextTerm 24 = .ok (.getfield 11, 3) := by decide +kernel
theorem dX3_beginNextTerm_27 : decode cX3_beginNextTerm 27 = .ok (.astore_n 1, 1) := by decide +kernel
theorem dX3_beginNextTerm_28 : decode cX3_beginNextTerm 28 = .ok (.aload_n 1, 1) := by decide +kernel
theorem dX3_beginNextTerm_29 : decode cX3_beginNextTerm 29 = .ok (.arraylength, 1) := by decide +kernel
theorem dX3_beginNextTerm_30 : decode cX3_beginNextTerm 30 = .ok (.istore_n 2, 1) := by decide +kernel
theorem dX3_beginNextTerm_31 : decode cX3_beginNextTerm 31 = .ok (.iconst 0, 1) := by decide +kernel
theorem dX3_beginNextTerm_32 : decode cX3_beginNextTerm 32 = .ok (.istore_n 3, 1) := by decide +kernel
theorem dX3_beginNextTerm_33 : decode cX3_beginNextTerm 33 = .ok (.iload_n 3, 1) := by decide +kernel
theorem dX3_beginNextTerm_34 : decode cX3_beginNextTerm 34 = .ok (.iload_n 2, 1) := by decide +kernel
theorem dX3_beginNextTerm_35 : decode cX3_beginNextTerm 35 = .ok (.if_icmp .ge 33, 3) := by decide +kernel
theorem dX3_beginNextTerm_38 : decode cX3_beginNextTerm 38 = .ok (.aload_n 1, 1) := by decide +kernel
theorem dX3_beginNextTerm_39 : decode cX3_beginNextTerm 39 = .ok (.iload_n 3, 1) := by decide +kernel
theorem dX3_beginNextTerm_40 : decode cX3_beginNextTerm 40 = .ok (.aaload, 1) := by decide +kernel
theorem dX3_beginNextTerm_41 : decode cX3_beginNextTerm 41 = .ok (.astore 4, 2) := by decide +kernel
theorem dX3_beginNextTerm_43 : decode cX3_beginNextTerm 43 = .ok (.aload 4, 2) := by decide +kernel
theorem dX3_beginNextTerm_45 : decode cX3_beginNextTerm 45 = .ok (.ifnull 17, 3) := by decide +kernel
theorem dX3_beginNextTerm_48 : decode cX3_beginNextTerm 48 = .ok (.aload 4, 2) := by decide +kernel
theorem dX3_beginNextTerm_50 : decode cX3_beginNextTerm 50 = .ok (.getfield 162, 3) := by decide +kernel
theorem dX3_beginNextTerm_53 : decode cX3_beginNextTerm 53 = .ok (.iconst (-1), 1) := by decide +kernel
theorem dX3_beginNextTerm_54 : decode cX3_beginNextTerm 54 = .ok (.if_icmp .eq 8, 3) := by decide +kernel
theorem dX3_beginNextTerm_57 : decode cX3_beginNextTerm 57 = .ok (.aload 4, 2) := by decide +kernel
theorem dX3_beginNextTerm_59 : decode cX3_beginNextTerm 59 = .ok (.invokevirtual 165, 3) := by decide +kernel
theorem dX3_beginNextTerm_62 : decode cX3_beginNextTerm 62 = .ok (.iinc 3 1, 3) := by decide +kernel
theorem dX3_beginNextTerm_65 : decode cX3_beginNextTerm 65 = .ok (.goto (-32), 3) := by decide +kernel
theorem dX3_beginNextTerm_68 : decode cX3_beginNextTerm 68 = .ok (.aload_n 0, 1) := by decide +kernel
theorem dX3_beginNextTerm_69 : decode cX3_beginNextTerm 69 = .ok (.getfield 19, 3) := by decide +kernel
theorem dX3_beginNextTerm_72 : decode cX3_beginNextTerm 72 = .ok (.astore_n 1, 1) := by decide +kernel
theorem dX3_beginNextTerm_73 : decode cX3_beginNextTerm 73 = .ok (.aload_n 1, 1) := by decide +kernel
theorem dX3_beginNextTerm_74 : decode cX3_beginNextTerm 74 = .ok (.arraylength, 1) := by decide +kernel
theorem dX3_beginNextTerm_75 : decode cX3_beginNextTerm 75 = .ok (.istore_n 2, 1) := by decide +kernel
theorem dX3_beginNextTerm_76 : decode cX3_beginNextTerm 76 = .ok (.iconst 0, 1) := by decide +kernel
theorem dX3_beginNextTerm_77 : decode cX3_beginNextTerm 77 = .ok (.istore_n 3, 1) := by decide +kernel
theorem dX3_beginNextTerm_78 : decode cX3_beginNextTerm 78 = .ok (.iload_n 3, 1) := by decide +kernel
theorem dX3_beginNextTerm_79 : decode cX3_beginNextTerm 79 = .ok (.iload_n 2, 1) := by decide +kernel
theorem dX3_beginNextTerm_80 : decode cX3_beginNextTerm 80 = .ok (.if_icmp .ge 24, 3) := by decide +kernel
theorem dX3_beginNextTerm_83 : decode cX3_beginNextTerm 83 = .ok (.aload_n 1, 1) := by decide +kernel
theorem dX3_beginNextTerm_84 : decode cX3_beginNextTerm 84 = .ok (.iload_n 3, 1) := by decide +kernel
theorem dX3_beginNextTerm_85 : decode cX3_beginNextTerm 85 = .ok (.aaload, 1) := by decide +kernel
theorem dX3_beginNextTerm_86 : decode cX3_beginNextTerm 86 = .ok (.astore 4, 2) := by decide +kernel
theorem dX3_beginNextTerm_88 : decode cX3_beginNextTerm 88 = .ok (.aload 4, 2) := by decide +kernel
theorem dX3_beginNextTerm_90 : decode cX3_beginNextTerm 90 = .ok (.ifnull 8, 3) := by decide +kernel
theorem dX3_beginNextTerm_93 : decode cX3_beginNextTerm 93 = .ok (.aload 4, 2) := by decide +kernel
theorem dX3_beginNextTerm_95 : decode cX3_beginNextTerm 95 = .ok (.invokevirtual 168, 3) := by decide +kernel
theorem dX3_beginNextTerm_98 : decode cX3_beginNextTerm 98 = .ok (.iinc 3 1, 3) := by decide +kernel
theorem dX3_beginNextTerm_101 : decode cX3_beginNextTerm 101 = .ok (.goto (-23), 3) := by decide +kernel
theorem dX3_beginNextTerm_104 : decode cX3_beginNextTerm 104 = .ok (.aload_n 0, 1) := by decide +kernel
theorem dX3_beginNextTerm_105 : decode cX3_beginNextTerm 105 = .ok (.iconst 0, 1) := by decide +kernel
theorem dX3_beginNextTerm_106 : decode cX3_beginNextTerm 106 = .ok (.putfield 54, 3) := by decide +kernel
theorem dX3_beginNextTerm_109 : decode cX3_beginNextTerm 109 = .ok (.aload_n 0, 1) := by decide +kernel
theorem dX3_beginNextTerm_110 : decode cX3_beginNextTerm 110 = .ok (.iconst 0, 1) := by decide +kernel
theorem dX3_beginNextTerm_111 : decode cX3_beginNextTerm 111 = .ok (.putfield 63, 3) := by decide +kernel
theorem dX3_beginNextTerm_114 : decode cX3_beginNextTerm 114 = .ok (.aload_n 0, 1) := by decide +kernel
theorem dX3_beginNextTerm_115 : decode cX3_beginNextTerm 115 = .ok (.dup, 1) := by decide +kernel
theorem dX3_beginNextTerm_116 : decode cX3_beginNextTerm 116 = .ok (.getfield 60, 3) := by decide +kernel
theorem dX3_beginNextTerm_119 : decode cX3_beginNextTerm 119 = .ok (.iconst 1, 1) := by decide +kernel
theorem dX3_beginNextTerm_120 : decode cX3_beginNextTerm 120 = .ok (.iadd, 1) := by decide +kernel
theorem dX3_beginNextTerm_121 : decode cX3_beginNextTerm 121 = .ok (.putfield 60, 3) := by decide +kernel
theorem dX3_beginNextTerm_124 : decode cX3_beginNextTerm 124 = .ok (.aload_n 0, 1) := by decide +kernel
theorem dX3_beginNextTerm_125 : decode cX3_beginNextTerm 125 = .ok (.getfield 60, 3) := by decide +kernel
theorem dX3_beginNextTerm_128 : decode cX3_beginNextTerm 128 = .ok (.ireturn, 1) := by decide +kernel
theorem dX3_settle_0 : decode cX3_settle 0 = .ok (.iconst 0, 1) := by decide +kernel
theorem dX3_settle_1 : decode cX3_settle 1 = .ok (.istore_n 1, 1) := by decide +kernel
theorem dX3_settle_2 : decode cX3_settle 2 = .ok (.iload_n 1, 1) := by decide +kernel
theorem dX3_settle_3 : decode cX3_settle 3 = .ok (.sipush 1000, 3) := by decide +kernel
theorem dX3_settle_6 : decode cX3_settle 6 = .ok (.if_icmp .ge 76, 3) := by decide +kernel
theorem dX3_settle_9 : decode cX3_settle 9 = .ok (.aconst_null, 1) := by decide +kernel
theorem dX3_settle_10 : decode cX3_settle 10 = .ok (.astore_n 2, 1) := by decide +kernel
theorem dX3_settle_11 : decode cX3_settle 11 = .ok (.aconst_null, 1) := by decide +kernel
theorem dX3_settle_12 : decode cX3_settle 12 = .ok (.astore_n 3, 1) := by decide +kernel
theorem dX3_settle_13 : decode cX3_settle 13 = .ok (.iconst 0, 1) := by decide +kernel
theorem dX3_settle_14 : decode cX3_settle 14 = .ok (.istore 4, 2) := by decide +kernel
theorem dX3_settle_16 : decode cX3_settle 16 = .ok (.iload 4, 2) := by decide +kernel
theorem dX3_settle_18 : decode cX3_settle 18 = .ok (.aload_n 0, 1) := by decide +kernel
theorem dX3_settle_19 : decode cX3_settle 19 = .ok (.getfield 54, 3) := by decide +kernel
theorem dX3_settle_22 : decode cX3_settle 22 = .ok (.if_icmp .ge 34, 3) := by decide +kernel
theorem dX3_settle_25 : decode cX3_settle 25 = .ok (.aload_n 2, 1) := by decide +kernel
theorem dX3_settle_26 : decode cX3_settle 26 = .ok (.ifnonnull 30, 3) := by decide +kernel
theorem dX3_settle_29 : decode cX3_settle 29 = .ok (.aload_n 0, 1) := by decide +kernel
theorem dX3_settle_30 : decode cX3_settle 30 = .ok (.iload 4, 2) := by decide +kernel
theorem dX3_settle_32 : decode cX3_settle 32 = .ok (.invokevirtual 111, 3) := by decide +kernel
theorem dX3_settle_35 : decode cX3_settle 35 = .ok (.astore_n 3, 1) := by decide +kernel
theorem dX3_settle_36 : decode cX3_settle 36 = .ok (.aload_n 3, 1) := by decide +kernel
theorem dX3_settle_37 : decode cX3_settle 37 = .ok (.ifnonnull 7, 3) := by decide +kernel
theorem dX3_settle_40 : decode cX3_settle 40 = .ok (.aconst_null, 1) := by decide +kernel
theorem dX3_settle_41 : decode cX3_settle 41 = .ok (.goto 8, 3) := by decide +kernel
theorem dX3_settle_44 : decode cX3_settle 44 = .ok (.aload_n 0, 1) := by decide +kernel
theorem dX3_settle_45 : decode cX3_settle 45 = .ok (.aload_n 3, 1) := by decide +kernel
theorem dX3_settle_46 : decode cX3_settle 46 = .ok (.invokevirtual 171, 3) := by decide +kernel
theorem dX3_settle_49 : decode cX3_settle 49 = .ok (.astore_n 2, 1) := by decide +kernel
theorem dX3_settle_50 : decode cX3_settle 50 = .ok (.iinc 4 1, 3) := by decide +kernel
theorem dX3_settle_53 : decode cX3_settle 53 = .ok (.goto (-37), 3) := by decide +kernel
theorem dX3_settle_56 : decode cX3_settle 56 = .ok (.aload_n 2, 1) := by decide +kernel
theorem dX3_settle_57 : decode cX3_settle 57 = .ok (.ifnull 7, 3) := by decide +kernel
theorem dX3_settle_60 : decode cX3_settle 60 = .ok (.aload_n 3, 1) := by decide +kernel
theorem dX3_settle_61 : decode cX3_settle 61 = .ok (.ifnonnull 4, 3) := by decide +kernel
theorem dX3_settle_64 : decode cX3_settle 64 = .ok (.return_, 1) := by decide +kernel
theorem dX3_settle_65 : decode cX3_settle 65 = .ok (.aload_n 0, 1) := by decide +kernel
theorem dX3_settle_66 : decode cX3_settle 66 = .ok (.aload_n 3, 1) := by decide +kernel
theorem dX3_settle_67 : decode cX3_settle 67 = .ok (.invokevirtual 120, 3) := by decide +kernel
theorem dX3_settle_70 : decode cX3_settle 70 = .ok (.aload_n 0, 1) := by decide +kernel
theorem dX3_settle_71 : decode cX3_settle 71 = .ok (.aload_n 3, 1) := by decide +kernel
theorem dX3_settle_72 : decode cX3_settle 72 = .ok (.aload_n 2, 1) := by decide +kernel
theorem dX3_settle_73 : decode cX3_settle 73 = .ok (.invokevirtual 175, 3) := by decide +kernel
theorem dX3_settle_76 : decode cX3_settle 76 = .ok (.iinc 1 1, 3) := by decide +kernel
theorem dX3_settle_79 : decode cX3_settle 79 = .ok (.goto (-77), 3) := by decide +kernel
theorem dX3_settle_82 : decode cX3_settle 82 = .ok (.return_, 1) := by decide +kernel
theorem dX3_betterFor_0 : decode cX3_betterFor 0 = .ok (.aload_n 1, 1) := by decide +kernel
theorem dX3_betterFor_1 : decode cX3_betterFor 1 = .ok (.getfield 104, 3) := by decide +kernel
theorem dX3_betterFor_4 : decode cX3_betterFor 4 = .ok (.ifCond .ne 5, 3) := by decide +kernel
theorem dX3_betterFor_7 : decode cX3_betterFor 7 = .ok (.aconst_null, 1) := by decide +kernel
theorem dX3_betterFor_8 : decode cX3_betterFor 8 = .ok (.areturn, 1) := by decide +kernel
theorem dX3_betterFor_9 : decode cX3_betterFor 9 = .ok (.iconst 0, 1) := by decide +kernel
theorem dX3_betterFor_10 : decode cX3_betterFor 10 = .ok (.istore_n 2, 1) := by decide +kernel
theorem dX3_betterFor_11 : decode cX3_betterFor 11 = .ok (.iload_n 2, 1) := by decide +kernel
theorem dX3_betterFor_12 : decode cX3_betterFor 12 = .ok (.iconst 3, 1) := by decide +kernel
theorem dX3_betterFor_13 : decode cX3_betterFor 13 = .ok (.if_icmp .ge 48, 3) := by decide +kernel
theorem dX3_betterFor_16 : decode cX3_betterFor 16 = .ok (.aload_n 1, 1) := by decide +kernel
theorem dX3_betterFor_17 : decode cX3_betterFor 17 = .ok (.iload_n 2, 1) := by decide +kernel
theorem dX3_betterFor_18 : decode cX3_betterFor 18 = .ok (.invokevirtual 179, 3) := by decide +kernel
theorem dX3_betterFor_21 : decode cX3_betterFor 21 = .ok (.istore_n 3, 1) := by decide +kernel
theorem dX3_betterFor_22 : decode cX3_betterFor 22 = .ok (.iload_n 3, 1) := by decide +kernel
theorem dX3_betterFor_23 : decode cX3_betterFor 23 = .ok (.aload_n 1, 1) := by decide +kernel
theorem dX3_betterFor_24 : decode cX3_betterFor 24 = .ok (.getfield 182, 3) := by decide +kernel
theorem dX3_betterFor_27 : decode cX3_betterFor 27 = .ok (.if_icmp .ne 5, 3) := by decide +kernel
theorem dX3_betterFor_30 : decode cX3_betterFor 30 = .ok (.aconst_null, 1) := by decide +kernel
theorem dX3_betterFor_31 : decode cX3_betterFor 31 = .ok (.areturn, 1) := by decide +kernel
theorem dX3_betterFor_32 : decode cX3_betterFor 32 = .ok (.aload_n 0, 1) := by decide +kernel
theorem dX3_betterFor_33 : decode cX3_betterFor 33 = .ok (.iload_n 3, 1) := by decide +kernel
theorem dX3_betterFor_34 : decode cX3_betterFor 34 = .ok (.invokevirtual 123, 3) := by decide +kernel
theorem dX3_betterFor_37 : decode cX3_betterFor 37 = .ok (.astore 4, 2) := by decide +kernel
theorem dX3_betterFor_39 : decode cX3_betterFor 39 = .ok (.aload 4, 2) := by decide +kernel
theorem dX3_betterFor_41 : decode cX3_betterFor 41 = .ok (.ifnull 14, 3) := by decide +kernel
theorem dX3_betterFor_44 : decode cX3_betterFor 44 = .ok (.aload 4, 2) := by decide +kernel
theorem dX3_betterFor_46 : decode cX3_betterFor 46 = .ok (.invokevirtual 185, 3) := by decide +kernel
theorem dX3_betterFor_49 : decode cX3_betterFor 49 = .ok (.ifCond .eq 6, 3) := by decide +kernel
theorem dX3_betterFor_52 : decode cX3_betterFor 52 = .ok (.aload 4, 2) := by decide +kernel
theorem dX3_betterFor_54 : decode cX3_betterFor 54 = .ok (.areturn, 1) := by decide +kernel
theorem dX3_betterFor_55 : decode cX3_betterFor 55 = .ok (.iinc 2 1, 3) := by decide +kernel
theorem dX3_betterFor_58 : decode cX3_betterFor 58 = .ok (.goto (-47), 3) := by decide +kernel
theorem dX3_betterFor_61 : decode cX3_betterFor 61 = .ok (.aconst_null, 1) := by decide +kernel
theorem dX3_betterFor_62 : decode cX3_betterFor 62 = .ok (.areturn, 1) := by decide +kernel
theorem dX3_comeInto_0 : decode cX3_comeInto 0 = .ok (.aload_n 2, 1) := by decide +kernel
theorem dX3_comeInto_1 : decode cX3_comeInto 1 = .ok (.aload_n 1, 1) := by decide +kernel
theorem dX3_comeInto_2 : decode cX3_comeInto 2 = .ok (.getfield 110, 3) := by decide +kernel
theorem dX3_comeInto_5 : decode cX3_comeInto 5 = .ok (.invokevirtual 189, 3) := by decide +kernel
theorem dX3_comeInto_8 : decode cX3_comeInto 8 = .ok (.aload_n 1, 1) := by decide +kernel
theorem dX3_comeInto_9 : decode cX3_comeInto 9 = .ok (.aload_n 2, 1) := by decide +kernel
theorem dX3_comeInto_10 : decode cX3_comeInto 10 = .ok (.getfield 96, 3) := by decide +kernel
theorem dX3_comeInto_13 : decode cX3_comeInto 13 = .ok (.putfield 182, 3) := by decide +kernel
theorem dX3_comeInto_16 : decode cX3_comeInto 16 = .ok (.aload_n 1, 1) := by decide +kernel
theorem dX3_comeInto_17 : decode cX3_comeInto 17 = .ok (.aload_n 2, 1) := by decide +kernel
theorem dX3_comeInto_18 : decode cX3_comeInto 18 = .ok (.getfield 192, 3) := by decide +kernel
theorem dX3_comeInto_21 : decode cX3_comeInto 21 = .ok (.putfield 119, 3) := by decide +kernel
theorem dX3_comeInto_24 : decode cX3_comeInto 24 = .ok (.aload_n 1, 1) := by decide +kernel
theorem dX3_comeInto_25 : decode cX3_comeInto 25 = .ok (.dup, 1) := by decide +kernel
theorem dX3_comeInto_26 : decode cX3_comeInto 26 = .ok (.getfield 195, 3) := by decide +kernel
theorem dX3_comeInto_29 : decode cX3_comeInto 29 = .ok (.iconst 1, 1) := by decide +kernel
theorem dX3_comeInto_30 : decode cX3_comeInto 30 = .ok (.iadd, 1) := by decide +kernel
theorem dX3_comeInto_31 : decode cX3_comeInto 31 = .ok (.putfield 195, 3) := by decide +kernel
theorem dX3_comeInto_34 : decode cX3_comeInto 34 = .ok (.aload_n 0, 1) := by decide +kernel
theorem dX3_comeInto_35 : decode cX3_comeInto 35 = .ok (.dup, 1) := by decide +kernel
theorem dX3_comeInto_36 : decode cX3_comeInto 36 = .ok (.getfield 67, 3) := by decide +kernel
theorem dX3_comeInto_39 : decode cX3_comeInto 39 = .ok (.aload_n 2, 1) := by decide +kernel
theorem dX3_comeInto_40 : decode cX3_comeInto 40 = .ok (.getfield 192, 3) := by decide +kernel
theorem dX3_comeInto_43 : decode cX3_comeInto 43 = .ok (.iadd, 1) := by decide +kernel
theorem dX3_comeInto_44 : decode cX3_comeInto 44 = .ok (.putfield 67, 3) := by decide +kernel
theorem dX3_comeInto_47 : decode cX3_comeInto 47 = .ok (.aload_n 0, 1) := by decide +kernel
theorem dX3_comeInto_48 : decode cX3_comeInto 48 = .ok (.dup, 1) := by decide +kernel
theorem dX3_comeInto_49 : decode cX3_comeInto 49 = .ok (.getfield 76, 3) := by decide +kernel
theorem dX3_comeInto_52 : decode cX3_comeInto 52 = .ok (.iconst 1, 1) := by decide +kernel
theorem dX3_comeInto_53 : decode cX3_comeInto 53 = .ok (.iadd, 1) := by decide +kernel
theorem dX3_comeInto_54 : decode cX3_comeInto 54 = .ok (.putfield 76, 3) := by decide +kernel
theorem dX3_comeInto_57 : decode cX3_comeInto 57 = .ok (.return_, 1) := by decide +kernel
theorem dX3_goOut_0 : decode cX3_goOut 0 = .ok (.aload_n 0, 1) := by decide +kernel
theorem dX3_goOut_1 : decode cX3_goOut 1 = .ok (.aload_n 1, 1) := by decide +kernel
theorem dX3_goOut_2 : decode cX3_goOut 2 = .ok (.getfield 182, 3) := by decide +kernel
theorem dX3_goOut_5 : decode cX3_goOut 5 = .ok (.invokevirtual 123, 3) := by decide +kernel
theorem dX3_goOut_8 : decode cX3_goOut 8 = .ok (.astore_n 2, 1) := by decide +kernel
theorem dX3_goOut_9 : decode cX3_goOut 9 = .ok (.aload_n 2, 1) := by decide +kernel
theorem dX3_goOut_10 : decode cX3_goOut 10 = .ok (.ifnull 11, 3) := by decide +kernel
theorem dX3_goOut_13 : decode cX3_goOut 13 = .ok (.aload_n 2, 1) := by decide +kernel
theorem dX3_goOut_14 : decode cX3_goOut 14 = .ok (.aload_n 1, 1) := by decide +kernel
theorem dX3_goOut_15 : decode cX3_goOut 15 = .ok (.getfield 110, 3) := by decide +kernel
theorem dX3_goOut_18 : decode cX3_goOut 18 = .ok (.invokevirtual 198, 3) := by decide +kernel
theorem dX3_goOut_21 : decode cX3_goOut 21 = .ok (.aload_n 1, 1) := by decide +kernel
theorem dX3_goOut_22 : decode cX3_goOut 22 = .ok (.iconst (-1), 1) := by decide +kernel
theorem dX3_goOut_23 : decode cX3_goOut 23 = .ok (.putfield 182, 3) := by decide +kernel
theorem dX3_goOut_26 : decode cX3_goOut 26 = .ok (.aload_n 0, 1) := by decide +kernel
theorem dX3_goOut_27 : decode cX3_goOut 27 = .ok (.dup, 1) := by decide +kernel
theorem dX3_goOut_28 : decode cX3_goOut 28 = .ok (.getfield 70, 3) := by decide +kernel
theorem dX3_goOut_31 : decode cX3_goOut 31 = .ok (.aload_n 1, 1) := by decide +kernel
theorem dX3_goOut_32 : decode cX3_goOut 32 = .ok (.getfield 119, 3) := by decide +kernel
theorem dX3_goOut_35 : decode cX3_goOut 35 = .ok (.iadd, 1) := by decide +kernel
theorem dX3_goOut_36 : decode cX3_goOut 36 = .ok (.putfield 70, 3) := by decide +kernel
theorem dX3_goOut_39 : decode cX3_goOut 39 = .ok (.aload_n 1, 1) := by decide +kernel
theorem dX3_goOut_40 : decode cX3_goOut 40 = .ok (.iconst 0, 1) := by decide +kernel
theorem dX3_goOut_41 : decode cX3_goOut 41 = .ok (.putfield 119, 3) := by decide +kernel
theorem dX3_goOut_44 : decode cX3_goOut 44 = .ok (.return_, 1) := by decide +kernel
theorem dX3_smallestTooSmall_0 : decode cX3_smallestTooSmall 0 = .ok (.aconst_null, 1) := by decide +kernel
theorem dX3_smallestTooSmall_1 : decode cX3_smallestTooSmall 1 = .ok (.astore_n 1, 1) := by decide +kernel
theorem dX3_smallestTooSmall_2 : decode cX3_smallestTooSmall 2 = .ok (.aload_n 0, 1) := by decide +kernel
theorem dX3_smallestTooSmall_3 : decode cX3_smallestTooSmall 3 = .ok (.getfield 11, 3) := by decide +kernel
theorem dX3_smallestTooSmall_6 : decode cX3_smallestTooSmall 6 = .ok (.astore_n 2, 1) := by decide +kernel
theorem dX3_smallestTooSmall_7 : decode cX3_smallestTooSmall 7 = .ok (.aload_n 2, 1) := by decide +kernel
theorem dX3_smallestTooSmall_8 : decode cX3_smallestTooSmall 8 = .ok (.arraylength, 1) := by decide +kernel
theorem dX3_smallestTooSmall_9 : decode cX3_smallestTooSmall 9 = .ok (.istore_n 3, 1) := by decide +kernel
theorem dX3_smallestTooSmall_10 : decode cX3_smallestTooSmall 10 = .ok (.iconst 0, 1) := by decide +kernel
theorem dX3_smallestTooSmall_11 : decode cX3_smallestTooSmall 11 = .ok (.istore 4, 2) := by decide +kernel
theorem dX3_smallestTooSmall_13 : decode cX3_smallestTooSmall 13 = .ok (.iload 4, 2) := by decide +kernel
theorem dX3_smallestTooSmall_15 : decode cX3_smallestTooSmall 15 = .ok (.iload_n 3, 1) := by decide +kernel
theorem dX3_smallestTooSmall_16 : decode cX3_smallestTooSmall 16 = .ok (.if_icmp .ge 47, 3) := by decide +kernel
theorem dX3_smallestTooSmall_19 : decode cX3_smallestTooSmall 19 = .ok (.aload_n 2, 1) := by decide +kernel
theorem dX3_smallestTooSmall_20 : decode cX3_smallestTooSmall 20 = .ok (.iload 4, 2) := by decide +kernel
theorem dX3_smallestTooSmall_22 : decode cX3_smallestTooSmall 22 = .ok (.aaload, 1) := by decide +kernel
theorem dX3_smallestTooSmall_23 : decode cX3_smallestTooSmall 23 = .ok (.astore 5, 2) := by decide +kernel
theorem dX3_smallestTooSmall_25 : decode cX3_smallestTooSmall 25 = .ok (.aload 5, 2) := by decide +kernel
theorem dX3_smallestTooSmall_27 : decode cX3_smallestTooSmall 27 = .ok (.ifnull 30, 3) := by decide +kernel
theorem dX3_smallestTooSmall_30 : decode cX3_smallestTooSmall 30 = .ok (.aload 5, 2) := by decide +kernel
theorem dX3_smallestTooSmall_32 : decode cX3_smallestTooSmall 32 = .ok (.invokevirtual 201, 3) := by decide +kernel
theorem dX3_smallestTooSmall_35 : decode cX3_smallestTooSmall 35 = .ok (.ifCond .eq 22, 3) := by decide +kernel
theorem dX3_smallestTooSmall_38 : decode cX3_smallestTooSmall 38 = .ok (.aload_n 1, 1) := by decide +kernel
theorem dX3_smallestTooSmall_39 : decode cX3_smallestTooSmall 39 = .ok (.ifnull 15, 3) := by decide +kernel
theorem dX3_smallestTooSmall_42 : decode cX3_smallestTooSmall 42 = .ok (.aload 5, 2) := by decide +kernel
theorem dX3_smallestTooSmall_44 : decode cX3_smallestTooSmall 44 = .ok (.getfield 204, 3) := by decide +kernel
theorem dX3_smallestTooSmall_47 : decode cX3_smallestTooSmall 47 = .ok (.aload_n 1, 1) := by decide +kernel
theorem dX3_smallestTooSmall_48 : decode cX3_smallestTooSmall 48 = .ok (.getfield 204, 3) := by decide +kernel
theorem dX3_smallestTooSmall_51 : decode cX3_smallestTooSmall 51 = .ok (.if_icmp .ge 6, 3) := by decide +kernel
theorem dX3_smallestTooSmall_54 : decode cX3_smallestTooSmall 54 = .ok (.aload 5, 2) := by decide +kernel
theorem dX3_smallestTooSmall_56 : decode cX3_smallestTooSmall 56 = .ok (.astore_n 1, 1) := by decide +kernel
theorem dX3_smallestTooSmall_57 : decode cX3_smallestTooSmall 57 = .ok (.iinc 4 1, 3) := by decide +kernel
theorem dX3_smallestTooSmall_60 : decode cX3_smallestTooSmall 60 = .ok (.goto (-47), 3) := by decide +kernel
theorem dX3_smallestTooSmall_63 : decode cX3_smallestTooSmall 63 = .ok (.aload_n 1, 1) := by decide +kernel
theorem dX3_smallestTooSmall_64 : decode cX3_smallestTooSmall 64 = .ok (.areturn, 1) := by decide +kernel
theorem dX3_mergingOf_0 : decode cX3_mergingOf 0 = .ok (.aconst_null, 1) := by decide +kernel
theorem dX3_mergingOf_1 : decode cX3_mergingOf 1 = .ok (.astore_n 2, 1) := by decide +kernel
theorem dX3_mergingOf_2 : decode cX3_mergingOf 2 = .ok (.aload_n 0, 1) := by decide +kernel
theorem dX3_mergingOf_3 : decode cX3_mergingOf 3 = .ok (.getfield 11, 3) := by decide +kernel
theorem dX3_mergingOf_6 : decode cX3_mergingOf 6 = .ok (.astore_n 3, 1) := by decide +kernel
theorem dX3_mergingOf_7 : decode cX3_mergingOf 7 = .ok (.aload_n 3, 1) := by decide +kernel
theorem dX3_mergingOf_8 : decode cX3_mergingOf 8 = .ok (.arraylength, 1) := by decide +kernel
theorem dX3_mergingOf_9 : decode cX3_mergingOf 9 = .ok (.istore 4, 2) := by decide +kernel
theorem dX3_mergingOf_11 : decode cX3_mergingOf 11 = .ok (.iconst 0, 1) := by decide +kernel
theorem dX3_mergingOf_12 : decode cX3_mergingOf 12 = .ok (.istore 5, 2) := by decide +kernel
theorem dX3_mergingOf_14 : decode cX3_mergingOf 14 = .ok (.iload 5, 2) := by decide +kernel
theorem dX3_mergingOf_16 : decode cX3_mergingOf 16 = .ok (.iload 4, 2) := by decide +kernel
theorem dX3_mergingOf_18 : decode cX3_mergingOf 18 = .ok (.if_icmp .ge 53, 3) := by decide +kernel
theorem dX3_mergingOf_21 : decode cX3_mergingOf 21 = .ok (.aload_n 3, 1) := by decide +kernel
theorem dX3_mergingOf_22 : decode cX3_mergingOf 22 = .ok (.iload 5, 2) := by decide +kernel
theorem dX3_mergingOf_24 : decode cX3_mergingOf 24 = .ok (.aaload, 1) := by decide +kernel
theorem dX3_mergingOf_25 : decode cX3_mergingOf 25 = .ok (.astore 6, 2) := by decide +kernel
theorem dX3_mergingOf_27 : decode cX3_mergingOf 27 = .ok (.aload 6, 2) := by decide +kernel
theorem dX3_mergingOf_29 : decode cX3_mergingOf 29 = .ok (.ifnull 36, 3) := by decide +kernel
theorem dX3_mergingOf_32 : decode cX3_mergingOf 32 = .ok (.aload_n 1, 1) := by decide +kernel
theorem dX3_mergingOf_33 : decode cX3_mergingOf 33 = .ok (.getfield 204, 3) := by decide +kernel
theorem dX3_mergingOf_36 : decode cX3_mergingOf 36 = .ok (.ifCond .le 29, 3) := by decide +kernel
theorem dX3_mergingOf_39 : decode cX3_mergingOf 39 = .ok (.aload 6, 2) := by decide +kernel
theorem dX3_mergingOf_41 : decode cX3_mergingOf 41 = .ok (.aload_n 1, 1) := by decide +kernel
theorem dX3_mergingOf_42 : decode cX3_mergingOf 42 = .ok (.invokevirtual 207, 3) := by decide +kernel
theorem dX3_mergingOf_45 : decode cX3_mergingOf 45 = .ok (.ifCond .eq 20, 3) := by decide +kernel
theorem dX3_mergingOf_48 : decode cX3_mergingOf 48 = .ok (.aload_n 2, 1) := by decide +kernel
theorem dX3_mergingOf_49 : decode cX3_mergingOf 49 = .ok (.ifnull 13, 3) := by decide +kernel
theorem dX3_mergingOf_52 : decode cX3_mergingOf 52 = .ok (.aload 6, 2) := by decide +kernel
theorem dX3_mergingOf_54 : decode cX3_mergingOf 54 = .ok (.aload_n 2, 1) := by decide +kernel
theorem dX3_mergingOf_55 : decode cX3_mergingOf 55 = .ok (.aload_n 1, 1) := by decide +kernel
theorem dX3_mergingOf_56 : decode cX3_mergingOf 56 = .ok (.invokestatic 210, 3) := by decide +kernel
theorem dX3_mergingOf_59 : decode cX3_mergingOf 59 = .ok (.ifCond .eq 6, 3) := by decide +kernel
theorem dX3_mergingOf_62 : decode cX3_mergingOf 62 = .ok (.aload 6, 2) := by decide +kernel
theorem dX3_mergingOf_64 : decode cX3_mergingOf 64 = .ok (.astore_n 2, 1) := by decide +kernel
theorem dX3_mergingOf_65 : decode cX3_mergingOf 65 = .ok (.iinc 5 1, 3) := by decide +kernel
theorem dX3_mergingOf_68 : decode cX3_mergingOf 68 = .ok (.goto (-54), 3) := by decide +kernel
theorem dX3_mergingOf_71 : decode cX3_mergingOf 71 = .ok (.aload_n 2, 1) := by decide +kernel
theorem dX3_mergingOf_72 : decode cX3_mergingOf 72 = .ok (.areturn, 1) := by decide +kernel
theorem dX3_isBetterMerging_0 : decode cX3_isBetterMerging 0 = .ok (.aload_n 1, 1) := by decide +kernel
theorem dX3_isBetterMerging_1 : decode cX3_isBetterMerging 1 = .ok (.aload_n 2, 1) := by decide +kernel
theorem dX3_isBetterMerging_2 : decode cX3_isBetterMerging 2 = .ok (.invokevirtual 214, 3) := by decide +kernel
theorem dX3_isBetterMerging_5 : decode cX3_isBetterMerging 5 = .ok (.aload_n 0, 1) := by decide +kernel
theorem dX3_isBetterMerging_6 : decode cX3_isBetterMerging 6 = .ok (.aload_n 2, 1) := by decide +kernel
theorem dX3_isBetterMerging_7 : decode cX3_isBetterMerging 7 = .ok (.invokevirtual 214, 3) := by decide +kernel
theorem dX3_isBetterMerging_10 : decode cX3_isBetterMerging 10 = .ok (.isub, 1) := by decide +kernel
theorem dX3_isBetterMerging_11 : decode cX3_isBetterMerging 11 = .ok (.istore_n 3, 1) := by decide +kernel
theorem dX3_isBetterMerging_12 : decode cX3_isBetterMerging 12 = .ok (.iload_n 3, 1) := by decide +kernel
theorem dX3_isBetterMerging_13 : decode cX3_isBetterMerging 13 = .ok (.ifCond .gt 18, 3) := by decide +kernel
theorem dX3_isBetterMerging_16 : decode cX3_isBetterMerging 16 = .ok (.iload_n 3, 1) := by decide +kernel
theorem dX3_isBetterMerging_17 : decode cX3_isBetterMerging 17 = .ok (.ifCond .ne 18, 3) := by decide +kernel
theorem dX3_isBetterMerging_20 : decode cX3_isBetterMerging 20 = .ok (.aload_n 0, 1) := by decide +kernel
theorem dX3_isBetterMerging_21 : decode cX3_isBetterMerging 21 = .ok (.getfield 204, 3) := by decide +kernel
theorem dX3_isBetterMerging_24 : decode cX3_isBetterMerging 24 = .ok (.aload_n 1, 1) := by decide +kernel
theorem dX3_isBetterMerging_25 : decode cX3_isBetterMerging 25 = .ok (.getfield 204, 3) := by decide +kernel
theorem dX3_isBetterMerging_28 : decode cX3_isBetterMerging 28 = .ok (.if_icmp .le 7, 3) := by decide +kernel
theorem dX3_isBetterMerging_31 : decode cX3_isBetterMerging 31 = .ok (.iconst 1, 1) := by decide +kernel
theorem dX3_isBetterMerging_32 : decode cX3_isBetterMerging 32 = .ok (.goto 4, 3) := by decide +kernel
theorem dX3_isBetterMerging_35 : decode cX3_isBetterMerging 35 = .ok (.iconst 0, 1) := by decide +kernel
theorem dX3_isBetterMerging_36 : decode cX3_isBetterMerging 36 = .ok (.ireturn, 1) := by decide +kernel
theorem dX3_merge_0 : decode cX3_merge 0 = .ok (.iconst 0, 1) := by decide +kernel
theorem dX3_merge_1 : decode cX3_merge 1 = .ok (.istore_n 3, 1) := by decide +kernel
theorem dX3_merge_2 : decode cX3_merge 2 = .ok (.iload_n 3, 1) := by decide +kernel
theorem dX3_merge_3 : decode cX3_merge 3 = .ok (.aload_n 1, 1) := by decide +kernel
theorem dX3_merge_4 : decode cX3_merge 4 = .ok (.getfield 204, 3) := by decide +kernel
theorem dX3_merge_7 : decode cX3_merge 7 = .ok (.if_icmp .ge 93, 3) := by decide +kernel
theorem dX3_merge_10 : decode cX3_merge 10 = .ok (.aload_n 0, 1) := by decide +kernel
theorem dX3_merge_11 : decode cX3_merge 11 = .ok (.aload_n 1, 1) := by decide +kernel
theorem dX3_merge_12 : decode cX3_merge 12 = .ok (.iload_n 3, 1) := by decide +kernel
theorem dX3_merge_13 : decode cX3_merge 13 = .ok (.invokevirtual 218, 3) := by decide +kernel
theorem dX3_merge_16 : decode cX3_merge 16 = .ok (.invokevirtual 111, 3) := by decide +kernel
theorem dX3_merge_19 : decode cX3_merge 19 = .ok (.astore 4, 2) := by decide +kernel
theorem dX3_merge_21 : decode cX3_merge 21 = .ok (.aload 4, 2) := by decide +kernel
theorem dX3_merge_23 : decode cX3_merge 23 = .ok (.ifnull 71, 3) := by decide +kernel
theorem dX3_merge_26 : decode cX3_merge 26 = .ok (.aload_n 2, 1) := by decide +kernel
theorem dX3_merge_27 : decode cX3_merge 27 = .ok (.aload 4, 2) := by decide +kernel
theorem dX3_merge_29 : decode cX3_merge 29 = .ok (.getfield 110, 3) := by decide +kernel
theorem dX3_merge_32 : decode cX3_merge 32 = .ok (.invokevirtual 189, 3) := by decide +kernel
theorem dX3_merge_35 : decode cX3_merge 35 = .ok (.aload 4, 2) := by decide +kernel
theorem dX3_merge_37 : decode cX3_merge 37 = .ok (.aload_n 2, 1) := by decide +kernel
theorem dX3_merge_38 : decode cX3_merge 38 = .ok (.getfield 96, 3) := by decide +kernel
theorem dX3_merge_41 : decode cX3_merge 41 = .ok (.putfield 182, 3) := by decide +kernel
theorem dX3_merge_44 : decode cX3_merge 44 = .ok (.aload 4, 2) := by decide +kernel
theorem dX3_merge_46 : decode cX3_merge 46 = .ok (.dup, 1) := by decide +kernel
theorem dX3_merge_47 : decode cX3_merge 47 = .ok (.getfield 195, 3) := by decide +kernel
theorem dX3_merge_50 : decode cX3_merge 50 = .ok (.iconst 1, 1) := by decide +kernel
theorem dX3_merge_51 : decode cX3_merge 51 = .ok (.iadd, 1) := by decide +kernel
theorem dX3_merge_52 : decode cX3_merge 52 = .ok (.putfield 195, 3) := by decide +kernel
theorem dX3_merge_55 : decode cX3_merge 55 = .ok (.iconst 0, 1) := by decide +kernel
theorem dX3_merge_56 : decode cX3_merge 56 = .ok (.aload 4, 2) := by decide +kernel
theorem dX3_merge_58 : decode cX3_merge 58 = .ok (.getfield 119, 3) := by decide +kernel
theorem dX3_merge_61 : decode cX3_merge 61 = .ok (.aload_n 2, 1) := by decide +kernel
theorem dX3_merge_62 : decode cX3_merge 62 = .ok (.getfield 192, 3) := by decide +kernel
theorem dX3_merge_65 : decode cX3_merge 65 = .ok (.isub, 1) := by decide +kernel
theorem dX3_merge_66 : decode cX3_merge 66 = .ok (.invokestatic 221, 3) := by decide +kernel
theorem dX3_merge_69 : decode cX3_merge 69 = .ok (.istore 5, 2) := by decide +kernel
theorem dX3_merge_71 : decode cX3_merge 71 = .ok (.aload 4, 2) := by decide +kernel
theorem dX3_merge_73 : decode cX3_merge 73 = .ok (.dup, 1) := by decide +kernel
theorem dX3_merge_74 : decode cX3_merge 74 = .ok (.getfield 119, 3) := by decide +kernel
theorem dX3_merge_77 : decode cX3_merge 77 = .ok (.iload 5, 2) := by decide +kernel
theorem dX3_merge_79 : decode cX3_merge 79 = .ok (.isub, 1) := by decide +kernel
theorem dX3_merge_80 : decode cX3_merge 80 = .ok (.putfield 119, 3) := by decide +kernel
theorem dX3_merge_83 : decode cX3_merge 83 = .ok (.aload_n 0, 1) := by decide +kernel
theorem dX3_merge_84 : decode cX3_merge 84 = .ok (.dup, 1) := by decide +kernel
theorem dX3_merge_85 : decode cX3_merge 85 = .ok (.getfield 70, 3) := by decide +kernel
theorem dX3_merge_88 : decode cX3_merge 88 = .ok (.iload 5, 2) := by decide +kernel
theorem dX3_merge_90 : decode cX3_merge 90 = .ok (.iadd, 1) := by decide +kernel
theorem dX3_merge_91 : decode cX3_merge 91 = .ok (.putfield 70, 3) := by decide +kernel
theorem dX3_merge_94 : decode cX3_merge 94 = .ok (.iinc 3 1, 3) := by decide +kernel
theorem dX3_merge_97 : decode cX3_merge 97 = .ok (.goto (-95), 3) := by decide +kernel
theorem dX3_merge_100 : decode cX3_merge 100 = .ok (.aload_n 1, 1) := by decide +kernel
theorem dX3_merge_101 : decode cX3_merge 101 = .ok (.iconst 0, 1) := by decide +kernel
theorem dX3_merge_102 : decode cX3_merge 102 = .ok (.putfield 204, 3) := by decide +kernel
theorem dX3_merge_105 : decode cX3_merge 105 = .ok (.aload_n 1, 1) := by decide +kernel
theorem dX3_merge_106 : decode cX3_merge 106 = .ok (.iconst 3, 1) := by decide +kernel
theorem dX3_merge_107 : decode cX3_merge 107 = .ok (.putfield 162, 3) := by decide +kernel
theorem dX3_merge_110 : decode cX3_merge 110 = .ok (.aload_n 1, 1) := by decide +kernel
theorem dX3_merge_111 : decode cX3_merge 111 = .ok (.iconst 1, 1) := by decide +kernel
theorem dX3_merge_112 : decode cX3_merge 112 = .ok (.putfield 224, 3) := by decide +kernel
theorem dX3_merge_115 : decode cX3_merge 115 = .ok (.aload_n 1, 1) := by decide +kernel
theorem dX3_merge_116 : decode cX3_merge 116 = .ok (.aload_n 2, 1) := by decide +kernel
theorem dX3_merge_117 : decode cX3_merge 117 = .ok (.getfield 96, 3) := by decide +kernel
theorem dX3_merge_120 : decode cX3_merge 120 = .ok (.putfield 227, 3) := by decide +kernel
theorem dX3_merge_123 : decode cX3_merge 123 = .ok (.aload_n 0, 1) := by decide +kernel
theorem dX3_merge_124 : decode cX3_merge 124 = .ok (.dup, 1) := by decide +kernel
theorem dX3_merge_125 : decode cX3_merge 125 = .ok (.getfield 79, 3) := by decide +kernel
theorem dX3_merge_128 : decode cX3_merge 128 = .ok (.iconst 1, 1) := by decide +kernel
theorem dX3_merge_129 : decode cX3_merge 129 = .ok (.iadd, 1) := by decide +kernel
theorem dX3_merge_130 : decode cX3_merge 130 = .ok (.putfield 79, 3) := by decide +kernel
theorem dX3_merge_133 : decode cX3_merge 133 = .ok (.return_, 1) := by decide +kernel
theorem dX3_cancel_0 : decode cX3_cancel 0 = .ok (.aload_n 0, 1) := by decide +kernel
theorem dX3_cancel_1 : decode cX3_cancel 1 = .ok (.getfield 19, 3) := by decide +kernel
theorem dX3_cancel_4 : decode cX3_cancel 4 = .ok (.astore_n 3, 1) := by decide +kernel
theorem dX3_cancel_5 : decode cX3_cancel 5 = .ok (.aload_n 3, 1) := by decide +kernel
theorem dX3_cancel_6 : decode cX3_cancel 6 = .ok (.arraylength, 1) := by decide +kernel
theorem dX3_cancel_7 : decode cX3_cancel 7 = .ok (.istore 4, 2) := by decide +kernel
theorem dX3_cancel_9 : decode cX3_cancel 9 = .ok (.iconst 0, 1) := by decide +kernel
theorem dX3_cancel_10 : decode cX3_cancel 10 = .ok (.istore 5, 2) := by decide +kernel
theorem dX3_cancel_12 : decode cX3_cancel 12 = .ok (.iload 5, 2) := by decide +kernel
theorem dX3_cancel_14 : decode cX3_cancel 14 = .ok (.iload 4, 2) := by decide +kernel
theorem dX3_cancel_16 : decode cX3_cancel 16 = .ok (.if_icmp .ge 38, 3) := by decide +kernel
theorem dX3_cancel_19 : decode cX3_cancel 19 = .ok (.aload_n 3, 1) := by decide +kernel
theorem dX3_cancel_20 : decode cX3_cancel 20 = .ok (.iload 5, 2) := by decide +kernel
theorem dX3_cancel_22 : decode cX3_cancel 22 = .ok (.aaload, 1) := by decide +kernel
theorem dX3_cancel_23 : decode cX3_cancel 23 = .ok (.astore 6, 2) := by decide +kernel
theorem dX3_cancel_25 : decode cX3_cancel 25 = .ok (.aload 6, 2) := by decide +kernel
theorem dX3_cancel_27 : decode cX3_cancel 27 = .ok (.ifnull 21, 3) := by decide +kernel
theorem dX3_cancel_30 : decode cX3_cancel 30 = .ok (.aload 6, 2) := by decide +kernel
theorem dX3_cancel_32 : decode cX3_cancel 32 = .ok (.getfield 182, 3) := by decide +kernel
theorem dX3_cancel_35 : decode cX3_cancel 35 = .ok (.aload_n 1, 1) := by decide +kernel
theorem dX3_cancel_36 : decode cX3_cancel 36 = .ok (.getfield 96, 3) := by decide +kernel
theorem dX3_cancel_39 : decode cX3_cancel 39 = .ok (.if_icmp .ne 9, 3) := by decide +kernel
theorem dX3_cancel_42 : decode cX3_cancel 42 = .ok (.aload_n 0, 1) := by decide +kernel
theorem dX3_cancel_43 : decode cX3_cancel 43 = .ok (.aload 6, 2) := by decide +kernel
theorem dX3_cancel_45 : decode cX3_cancel 45 = .ok (.invokevirtual 120, 3) := by decide +kernel
theorem dX3_cancel_48 : decode cX3_cancel 48 = .ok (.iinc 5 1, 3) := by decide +kernel
theorem dX3_cancel_51 : decode cX3_cancel 51 = .ok (.goto (-39), 3) := by decide +kernel
theorem dX3_cancel_54 : decode cX3_cancel 54 = .ok (.aload_n 1, 1) := by decide +kernel
theorem dX3_cancel_55 : decode cX3_cancel 55 = .ok (.iconst 2, 1) := by decide +kernel
theorem dX3_cancel_56 : decode cX3_cancel 56 = .ok (.putfield 162, 3) := by decide +kernel
theorem dX3_cancel_59 : decode cX3_cancel 59 = .ok (.aload_n 1, 1) := by decide +kernel
theorem dX3_cancel_60 : decode cX3_cancel 60 = .ok (.iload_n 2, 1) := by decide +kernel
theorem dX3_cancel_61 : decode cX3_cancel 61 = .ok (.putfield 224, 3) := by decide +kernel
theorem dX3_cancel_64 : decode cX3_cancel 64 = .ok (.aload_n 0, 1) := by decide +kernel
theorem dX3_cancel_65 : decode cX3_cancel 65 = .ok (.dup, 1) := by decide +kernel
theorem dX3_cancel_66 : decode cX3_cancel 66 = .ok (.getfield 82, 3) := by decide +kernel
theorem dX3_cancel_69 : decode cX3_cancel 69 = .ok (.iconst 1, 1) := by decide +kernel
theorem dX3_cancel_70 : decode cX3_cancel 70 = .ok (.iadd, 1) := by decide +kernel
theorem dX3_cancel_71 : decode cX3_cancel 71 = .ok (.putfield 82, 3) := by decide +kernel
theorem dX3_cancel_74 : decode cX3_cancel 74 = .ok (.return_, 1) := by decide +kernel
theorem dX3_findsRoom_0 : decode cX3_findsRoom 0 = .ok (.aload_n 0, 1) := by decide +kernel
theorem dX3_findsRoom_1 : decode cX3_findsRoom 1 = .ok (.aload_n 1, 1) := by decide +kernel
theorem dX3_findsRoom_2 : decode cX3_findsRoom 2 = .ok (.invokevirtual 230, 3) := by decide +kernel
theorem dX3_findsRoom_5 : decode cX3_findsRoom 5 = .ok (.istore_n 2, 1) := by decide +kernel
theorem dX3_findsRoom_6 : decode cX3_findsRoom 6 = .ok (.iload_n 2, 1) := by decide +kernel
theorem dX3_findsRoom_7 : decode cX3_findsRoom 7 = .ok (.iconst (-1), 1) := by decide +kernel
theorem dX3_findsRoom_8 : decode cX3_findsRoom 8 = .ok (.if_icmp .ne 5, 3) := by decide +kernel
theorem dX3_findsRoom_11 : decode cX3_findsRoom 11 = .ok (.iconst 0, 1) := by decide +kernel
theorem dX3_findsRoom_12 : decode cX3_findsRoom 12 = .ok (.ireturn, 1) := by decide +kernel
theorem dX3_findsRoom_13 : decode cX3_findsRoom 13 = .ok (.aload_n 1, 1) := by decide +kernel
theorem dX3_findsRoom_14 : decode cX3_findsRoom 14 = .ok (.iload_n 2, 1) := by decide +kernel
theorem dX3_findsRoom_15 : decode cX3_findsRoom 15 = .ok (.putfield 233, 3) := by decide +kernel
theorem dX3_findsRoom_18 : decode cX3_findsRoom 18 = .ok (.aload_n 1, 1) := by decide +kernel
theorem dX3_findsRoom_19 : decode cX3_findsRoom 19 = .ok (.iconst 1, 1) := by decide +kernel
theorem dX3_findsRoom_20 : decode cX3_findsRoom 20 = .ok (.putfield 162, 3) := by decide +kernel
theorem dX3_findsRoom_23 : decode cX3_findsRoom 23 = .ok (.iconst 1, 1) := by decide +kernel
theorem dX3_findsRoom_24 : decode cX3_findsRoom 24 = .ok (.ireturn, 1) := by decide +kernel
theorem dX3_greatestOpen_0 : decode cX3_greatestOpen 0 = .ok (.aconst_null, 1) := by decide +kernel
theorem dX3_greatestOpen_1 : decode cX3_greatestOpen 1 = .ok (.astore_n 1, 1) := by decide +kernel
theorem dX3_greatestOpen_2 : decode cX3_greatestOpen 2 = .ok (.aload_n 0, 1) := by decide +kernel
theorem dX3_greatestOpen_3 : decode cX3_greatestOpen 3 = .ok (.getfield 11, 3) := by decide +kernel
theorem dX3_greatestOpen_6 : decode cX3_greatestOpen 6 = .ok (.astore_n 2, 1) := by decide +kernel
theorem dX3_greatestOpen_7 : decode cX3_greatestOpen 7 = .ok (.aload_n 2, 1) := by decide +kernel
theorem dX3_greatestOpen_8 : decode cX3_greatestOpen 8 = .ok (.arraylength, 1) := by decide +kernel
theorem dX3_greatestOpen_9 : decode cX3_greatestOpen 9 = .ok (.istore_n 3, 1) := by decide +kernel
theorem dX3_greatestOpen_10 : decode cX3_greatestOpen 10 = .ok (.iconst 0, 1) := by decide +kernel
theorem dX3_greatestOpen_11 : decode cX3_greatestOpen 11 = .ok (.istore 4, 2) := by decide +kernel
theorem dX3_greatestOpen_13 : decode cX3_greatestOpen 13 = .ok (.iload 4, 2) := by decide +kernel
theorem dX3_greatestOpen_15 : decode cX3_greatestOpen 15 = .ok (.iload_n 3, 1) := by decide +kernel
theorem dX3_greatestOpen_16 : decode cX3_greatestOpen 16 = .ok (.if_icmp .ge 47, 3) := by decide +kernel
theorem dX3_greatestOpen_19 : decode cX3_greatestOpen 19 = .ok (.aload_n 2, 1) := by decide +kernel
theorem dX3_greatestOpen_20 : decode cX3_greatestOpen 20 = .ok (.iload 4, 2) := by decide +kernel
theorem dX3_greatestOpen_22 : decode cX3_greatestOpen 22 = .ok (.aaload, 1) := by decide +kernel
theorem dX3_greatestOpen_23 : decode cX3_greatestOpen 23 = .ok (.astore 5, 2) := by decide +kernel
theorem dX3_greatestOpen_25 : decode cX3_greatestOpen 25 = .ok (.aload 5, 2) := by decide +kernel
theorem dX3_greatestOpen_27 : decode cX3_greatestOpen 27 = .ok (.ifnull 30, 3) := by decide +kernel
theorem dX3_greatestOpen_30 : decode cX3_greatestOpen 30 = .ok (.aload 5, 2) := by decide +kernel
theorem dX3_greatestOpen_32 : decode cX3_greatestOpen 32 = .ok (.getfield 162, 3) := by decide +kernel
theorem dX3_greatestOpen_35 : decode cX3_greatestOpen 35 = .ok (.ifCond .ne 22, 3) := by decide +kernel
theorem dX3_greatestOpen_38 : decode cX3_greatestOpen 38 = .ok (.aload_n 1, 1) := by decide +kernel
theorem dX3_greatestOpen_39 : decode cX3_greatestOpen 39 = .ok (.ifnull 15, 3) := by decide +kernel
theorem dX3_greatestOpen_42 : decode cX3_greatestOpen 42 = .ok (.aload 5, 2) := by decide +kernel
theorem dX3_greatestOpen_44 : decode cX3_greatestOpen 44 = .ok (.getfield 204, 3) := by decide +kernel
theorem dX3_greatestOpen_47 : decode cX3_greatestOpen 47 = .ok (.aload_n 1, 1) := by decide +kernel
theorem dX3_greatestOpen_48 : decode cX3_greatestOpen 48 = .ok (.getfield 204, 3) := by decide +kernel
theorem dX3_greatestOpen_51 : decode cX3_greatestOpen 51 = .ok (.if_icmp .le 6, 3) := by decide +kernel
theorem dX3_greatestOpen_54 : decode cX3_greatestOpen 54 = .ok (.aload 5, 2) := by decide +kernel
theorem dX3_greatestOpen_56 : decode cX3_greatestOpen 56 = .ok (.astore_n 1, 1) := by decide +kernel
theorem dX3_greatestOpen_57 : decode cX3_greatestOpen 57 = .ok (.iinc 4 1, 3) := by decide +kernel
theorem dX3_greatestOpen_60 : decode cX3_greatestOpen 60 = .ok (.goto (-47), 3) := by decide +kernel
theorem dX3_greatestOpen_63 : decode cX3_greatestOpen 63 = .ok (.aload_n 1, 1) := by decide +kernel
theorem dX3_greatestOpen_64 : decode cX3_greatestOpen 64 = .ok (.areturn, 1) := by decide +kernel
theorem dX3_roomFor_0 : decode cX3_roomFor 0 = .ok (.iconst (-1), 1) := by decide +kernel
theorem dX3_roomFor_1 : decode cX3_roomFor 1 = .ok (.istore_n 2, 1) := by decide +kernel
theorem dX3_roomFor_2 : decode cX3_roomFor 2 = .ok (.iconst 0, 1) := by decide +kernel
theorem dX3_roomFor_3 : decode cX3_roomFor 3 = .ok (.istore_n 3, 1) := by decide +kernel
theorem dX3_roomFor_4 : decode cX3_roomFor 4 = .ok (.iload_n 3, 1) := by decide +kernel
theorem dX3_roomFor_5 : decode cX3_roomFor 5 = .ok (.aload_n 0, 1) := by decide +kernel
theorem dX3_roomFor_6 : decode cX3_roomFor 6 = .ok (.getfield 57, 3) := by decide +kernel
theorem dX3_roomFor_9 : decode cX3_roomFor 9 = .ok (.if_icmp .ge 65, 3) := by decide +kernel
theorem dX3_roomFor_12 : decode cX3_roomFor 12 = .ok (.aload_n 0, 1) := by decide +kernel
theorem dX3_roomFor_13 : decode cX3_roomFor 13 = .ok (.iload_n 3, 1) := by decide +kernel
theorem dX3_roomFor_14 : decode cX3_roomFor 14 = .ok (.invokevirtual 236, 3) := by decide +kernel
theorem dX3_roomFor_17 : decode cX3_roomFor 17 = .ok (.aload_n 1, 1) := by decide +kernel
theorem dX3_roomFor_18 : decode cX3_roomFor 18 = .ok (.getfield 204, 3) := by decide +kernel
theorem dX3_roomFor_21 : decode cX3_roomFor 21 = .ok (.if_icmp .lt 19, 3) := by decide +kernel
theorem dX3_roomFor_24 : decode cX3_roomFor 24 = .ok (.aload_n 0, 1) := by decide +kernel
theorem dX3_roomFor_25 : decode cX3_roomFor 25 = .ok (.iload_n 3, 1) := by decide +kernel
theorem dX3_roomFor_26 : decode cX3_roomFor 26 = .ok (.aload_n 1, 1) := by decide +kernel
theorem dX3_roomFor_27 : decode cX3_roomFor 27 = .ok (.getfield 239, 3) := by decide +kernel
theorem dX3_roomFor_30 : decode cX3_roomFor 30 = .ok (.invokevirtual 242, 3) := by decide +kernel
theorem dX3_roomFor_33 : decode cX3_roomFor 33 = .ok (.ifCond .ne 7, 3) := by decide +kernel
theorem dX3_roomFor_36 : decode cX3_roomFor 36 = .ok (.iconst 1, 1) := by decide +kernel
theorem dX3_roomFor_37 : decode cX3_roomFor 37 = .ok (.goto 4, 3) := by decide +kernel
theorem dX3_roomFor_40 : decode cX3_roomFor 40 = .ok (.iconst 0, 1) := by decide +kernel
theorem dX3_roomFor_41 : decode cX3_roomFor 41 = .ok (.istore 4, 2) := by decide +kernel
theorem dX3_roomFor_43 : decode cX3_roomFor 43 = .ok (.iload 4, 2) := by decide +kernel
theorem dX3_roomFor_45 : decode cX3_roomFor 45 = .ok (.ifCond .eq 23, 3) := by decide +kernel
theorem dX3_roomFor_48 : decode cX3_roomFor 48 = .ok (.iload_n 2, 1) := by decide +kernel
theorem dX3_roomFor_49 : decode cX3_roomFor 49 = .ok (.iconst (-1), 1) := by decide +kernel
theorem dX3_roomFor_50 : decode cX3_roomFor 50 = .ok (.if_icmp .eq 16, 3) := by decide +kernel
theorem dX3_roomFor_53 : decode cX3_roomFor 53 = .ok (.aload_n 0, 1) := by decide +kernel
theorem dX3_roomFor_54 : decode cX3_roomFor 54 = .ok (.iload_n 3, 1) := by decide +kernel
theorem dX3_roomFor_55 : decode cX3_roomFor 55 = .ok (.invokevirtual 236, 3) := by decide +kernel
theorem dX3_roomFor_58 : decode cX3_roomFor 58 = .ok (.aload_n 0, 1) := by decide +kernel
theorem dX3_roomFor_59 : decode cX3_roomFor 59 = .ok (.iload_n 2, 1) := by decide +kernel
theorem dX3_roomFor_60 : decode cX3_roomFor 60 = .ok (.invokevirtual 236, 3) := by decide +kernel
theorem dX3_roomFor_63 : decode cX3_roomFor 63 = .ok (.if_icmp .ge 5, 3) := by decide +kernel
theorem dX3_roomFor_66 : decode cX3_roomFor 66 = .ok (.iload_n 3, 1) := by decide +kernel
theorem dX3_roomFor_67 : decode cX3_roomFor 67 = .ok (.istore_n 2, 1) := by decide +kernel
theorem dX3_roomFor_68 : decode cX3_roomFor 68 = .ok (.iinc 3 1, 3) := by decide +kernel
theorem dX3_roomFor_71 : decode cX3_roomFor 71 = .ok (.goto (-67), 3) := by decide +kernel
theorem dX3_roomFor_74 : decode cX3_roomFor 74 = .ok (.iload_n 2, 1) := by decide +kernel
theorem dX3_roomFor_75 : decode cX3_roomFor 75 = .ok (.ireturn, 1) := by decide +kernel
theorem dX3_isGiven_0 : decode cX3_isGiven 0 = .ok (.aload_n 0, 1) := by decide +kernel
theorem dX3_isGiven_1 : decode cX3_isGiven 1 = .ok (.getfield 11, 3) := by decide +kernel
theorem dX3_isGiven_4 : decode cX3_isGiven 4 = .ok (.astore_n 3, 1) := by decide +kernel
theorem dX3_isGiven_5 : decode cX3_isGiven 5 = .ok (.aload_n 3, 1) := by decide +kernel
theorem dX3_isGiven_6 : decode cX3_isGiven 6 = .ok (.arraylength, 1) := by decide +kernel
theorem dX3_isGiven_7 : decode cX3_isGiven 7 = .ok (.istore 4, 2) := by decide +kernel
theorem dX3_isGiven_9 : decode cX3_isGiven 9 = .ok (.iconst 0, 1) := by decide +kernel
theorem dX3_isGiven_10 : decode cX3_isGiven 10 = .ok (.istore 5, 2) := by decide +kernel
theorem dX3_isGiven_12 : decode cX3_isGiven 12 = .ok (.iload 5, 2) := by decide +kernel
theorem dX3_isGiven_14 : decode cX3_isGiven 14 = .ok (.iload 4, 2) := by decide +kernel
theorem dX3_isGiven_16 : decode cX3_isGiven 16 = .ok (.if_icmp .ge 40, 3) := by decide +kernel
theorem dX3_isGiven_19 : decode cX3_isGiven 19 = .ok (.aload_n 3, 1) := by decide +kernel
theorem dX3_isGiven_20 : decode cX3_isGiven 20 = .ok (.iload 5, 2) := by decide +kernel
theorem dX3_isGiven_22 : decode cX3_isGiven 22 = .ok (.aaload, 1) := by decide +kernel
theorem dX3_isGiven_23 : decode cX3_isGiven 23 = .ok (.astore 6, 2) := by decide +kernel
theorem dX3_isGiven_25 : decode cX3_isGiven 25 = .ok (.aload 6, 2) := by decide +kernel
theorem dX3_isGiven_27 : decode cX3_isGiven 27 = .ok (.ifnull 23, 3) := by decide +kernel
theorem dX3_isGiven_30 : decode cX3_isGiven 30 = .ok (.aload 6, 2) := by decide +kernel
theorem dX3_isGiven_32 : decode cX3_isGiven 32 = .ok (.getfield 233, 3) := by decide +kernel
theorem dX3_isGiven_35 : decode cX3_isGiven 35 = .ok (.iload_n 1, 1) := by decide +kernel
theorem dX3_isGiven_36 : decode cX3_isGiven 36 = .ok (.if_icmp .ne 14, 3) := by decide +kernel
theorem dX3_isGiven_39 : decode cX3_isGiven 39 = .ok (.aload 6, 2) := by decide +kernel
theorem dX3_isGiven_41 : decode cX3_isGiven 41 = .ok (.getfield 239, 3) := by decide +kernel
theorem dX3_isGiven_44 : decode cX3_isGiven 44 = .ok (.iload_n 2, 1) := by decide +kernel
theorem dX3_isGiven_45 : decode cX3_isGiven 45 = .ok (.if_icmp .ne 5, 3) := by decide +kernel
theorem dX3_isGiven_48 : decode cX3_isGiven 48 = .ok (.iconst 1, 1) := by decide +kernel
theorem dX3_isGiven_49 : decode cX3_isGiven 49 = .ok (.ireturn, 1) := by decide +kernel
theorem dX3_isGiven_50 : decode cX3_isGiven 50 = .ok (.iinc 5 1, 3) := by decide +kernel
theorem dX3_isGiven_53 : decode cX3_isGiven 53 = .ok (.goto (-41), 3) := by decide +kernel
theorem dX3_isGiven_56 : decode cX3_isGiven 56 = .ok (.iconst 0, 1) := by decide +kernel
theorem dX3_isGiven_57 : decode cX3_isGiven 57 = .ok (.ireturn, 1) := by decide +kernel
theorem dX3_coursesIn_0 : decode cX3_coursesIn 0 = .ok (.iconst 0, 1) := by decide +kernel
theorem dX3_coursesIn_1 : decode cX3_coursesIn 1 = .ok (.istore_n 2, 1) := by decide +kernel
theorem dX3_coursesIn_2 : decode cX3_coursesIn 2 = .ok (.aload_n 0, 1) := by decide +kernel
theorem dX3_coursesIn_3 : decode cX3_coursesIn 3 = .ok (.getfield 11, 3) := by decide +kernel
theorem dX3_coursesIn_6 : decode cX3_coursesIn 6 = .ok (.astore_n 3, 1) := by decide +kernel
theorem dX3_coursesIn_7 : decode cX3_coursesIn 7 = .ok (.aload_n 3, 1) := by decide +kernel
theorem dX3_coursesIn_8 : decode cX3_coursesIn 8 = .ok (.arraylength, 1) := by decide +kernel
theorem dX3_coursesIn_9 : decode cX3_coursesIn 9 = .ok (.istore 4, 2) := by decide +kernel
theorem dX3_coursesIn_11 : decode cX3_coursesIn 11 = .ok (.iconst 0, 1) := by decide +kernel
theorem dX3_coursesIn_12 : decode cX3_coursesIn 12 = .ok (.istore 5, 2) := by decide +kernel
theorem dX3_coursesIn_14 : decode cX3_coursesIn 14 = .ok (.iload 5, 2) := by decide +kernel
theorem dX3_coursesIn_16 : decode cX3_coursesIn 16 = .ok (.iload 4, 2) := by decide +kernel
theorem dX3_coursesIn_18 : decode cX3_coursesIn 18 = .ok (.if_icmp .ge 39, 3) := by decide +kernel
theorem dX3_coursesIn_21 : decode cX3_coursesIn 21 = .ok (.aload_n 3, 1) := by decide +kernel
theorem dX3_coursesIn_22 : decode cX3_coursesIn 22 = .ok (.iload 5, 2) := by decide +kernel
theorem dX3_coursesIn_24 : decode cX3_coursesIn 24 = .ok (.aaload, 1) := by decide +kernel
theorem dX3_coursesIn_25 : decode cX3_coursesIn 25 = .ok (.astore 6, 2) := by decide +kernel
theorem dX3_coursesIn_27 : decode cX3_coursesIn 27 = .ok (.aload 6, 2) := by decide +kernel
theorem dX3_coursesIn_29 : decode cX3_coursesIn 29 = .ok (.ifnull 22, 3) := by decide +kernel
theorem dX3_coursesIn_32 : decode cX3_coursesIn 32 = .ok (.aload 6, 2) := by decide +kernel
theorem dX3_coursesIn_34 : decode cX3_coursesIn 34 = .ok (.getfield 233, 3) := by decide +kernel
theorem dX3_coursesIn_37 : decode cX3_coursesIn 37 = .ok (.iload_n 1, 1) := by decide +kernel
theorem dX3_coursesIn_38 : decode cX3_coursesIn 38 = .ok (.if_icmp .ne 13, 3) := by decide +kernel
theorem dX3_coursesIn_41 : decode cX3_coursesIn 41 = .ok (.iload_n 2, 1) := by decide +kernel
theorem dX3_coursesIn_42 : decode cX3_coursesIn 42 = .ok (.iconst 1, 1) := by decide +kernel
theorem dX3_coursesIn_43 : decode cX3_coursesIn 43 = .ok (.aload 6, 2) := by decide +kernel
theorem dX3_coursesIn_45 : decode cX3_coursesIn 45 = .ok (.getfield 96, 3) := by decide +kernel
theorem dX3_coursesIn_48 : decode cX3_coursesIn 48 = .ok (.ishl, 1) := by decide +kernel
theorem dX3_coursesIn_49 : decode cX3_coursesIn 49 = .ok (.ior, 1) := by decide +kernel
theorem dX3_coursesIn_50 : decode cX3_coursesIn 50 = .ok (.istore_n 2, 1) := by decide +kernel
theorem dX3_coursesIn_51 : decode cX3_coursesIn 51 = .ok (.iinc 5 1, 3) := by decide +kernel
theorem dX3_coursesIn_54 : decode cX3_coursesIn 54 = .ok (.goto (-40), 3) := by decide +kernel
theorem dX3_coursesIn_57 : decode cX3_coursesIn 57 = .ok (.iload_n 2, 1) := by decide +kernel
theorem dX3_coursesIn_58 : decode cX3_coursesIn 58 = .ok (.ireturn, 1) := by decide +kernel
theorem dX3_chairsLeft_0 : decode cX3_chairsLeft 0 = .ok (.iconst (-1), 1) := by decide +kernel
theorem dX3_chairsLeft_1 : decode cX3_chairsLeft 1 = .ok (.istore_n 2, 1) := by decide +kernel
theorem dX3_chairsLeft_2 : decode cX3_chairsLeft 2 = .ok (.aload_n 0, 1) := by decide +kernel
theorem dX3_chairsLeft_3 : decode cX3_chairsLeft 3 = .ok (.getfield 11, 3) := by decide +kernel
theorem dX3_chairsLeft_6 : decode cX3_chairsLeft 6 = .ok (.astore_n 3, 1) := by decide +kernel
theorem dX3_chairsLeft_7 : decode cX3_chairsLeft 7 = .ok (.aload_n 3, 1) := by decide +kernel
theorem dX3_chairsLeft_8 : decode cX3_chairsLeft 8 = .ok (.arraylength, 1) := by decide +kernel
theorem dX3_chairsLeft_9 : decode cX3_chairsLeft 9 = .ok (.istore 4, 2) := by decide +kernel
theorem dX3_chairsLeft_11 : decode cX3_chairsLeft 11 = .ok (.iconst 0, 1) := by decide +kernel
theorem dX3_chairsLeft_12 : decode cX3_chairsLeft 12 = .ok (.istore 5, 2) := by decide +kernel
theorem dX3_chairsLeft_14 : decode cX3_chairsLeft 14 = .ok (.iload 5, 2) := by decide +kernel
theorem dX3_chairsLeft_16 : decode cX3_chairsLeft 16 = .ok (.iload 4, 2) := by decide +kernel
theorem dX3_chairsLeft_18 : decode cX3_chairsLeft 18 = .ok (.if_icmp .ge 59, 3) := by decide +kernel
theorem dX3_chairsLeft_21 : decode cX3_chairsLeft 21 = .ok (.aload_n 3, 1) := by decide +kernel
theorem dX3_chairsLeft_22 : decode cX3_chairsLeft 22 = .ok (.iload 5, 2) := by decide +kernel
theorem dX3_chairsLeft_24 : decode cX3_chairsLeft 24 = .ok (.aaload, 1) := by decide +kernel
theorem dX3_chairsLeft_25 : decode cX3_chairsLeft 25 = .ok (.astore 6, 2) := by decide +kernel
theorem dX3_chairsLeft_27 : decode cX3_chairsLeft 27 = .ok (.aload 6, 2) := by decide +kernel
theorem dX3_chairsLeft_29 : decode cX3_chairsLeft 29 = .ok (.ifnull 42, 3) := by decide +kernel
theorem dX3_chairsLeft_32 : decode cX3_chairsLeft 32 = .ok (.aload 6, 2) := by decide +kernel
theorem dX3_chairsLeft_34 : decode cX3_chairsLeft 34 = .ok (.getfield 233, 3) := by decide +kernel
theorem dX3_chairsLeft_37 : decode cX3_chairsLeft 37 = .ok (.iload_n 1, 1) := by decide +kernel
theorem dX3_chairsLeft_38 : decode cX3_chairsLeft 38 = .ok (.if_icmp .ne 33, 3) := by decide +kernel
theorem dX3_chairsLeft_41 : decode cX3_chairsLeft 41 = .ok (.aload_n 0, 1) := by decide +kernel
theorem dX3_chairsLeft_42 : decode cX3_chairsLeft 42 = .ok (.iload_n 1, 1) := by decide +kernel
theorem dX3_chairsLeft_43 : decode cX3_chairsLeft 43 = .ok (.invokevirtual 236, 3) := by decide +kernel
theorem dX3_chairsLeft_46 : decode cX3_chairsLeft 46 = .ok (.aload 6, 2) := by decide +kernel
theorem dX3_chairsLeft_48 : decode cX3_chairsLeft 48 = .ok (.getfield 204, 3) := by decide +kernel
theorem dX3_chairsLeft_51 : decode cX3_chairsLeft 51 = .ok (.isub, 1) := by decide +kernel
theorem dX3_chairsLeft_52 : decode cX3_chairsLeft 52 = .ok (.istore 7, 2) := by decide +kernel
theorem dX3_chairsLeft_54 : decode cX3_chairsLeft 54 = .ok (.iload_n 2, 1) := by decide +kernel
theorem dX3_chairsLeft_55 : decode cX3_chairsLeft 55 = .ok (.iconst (-1), 1) := by decide +kernel
theorem dX3_chairsLeft_56 : decode cX3_chairsLeft 56 = .ok (.if_icmp .ne 8, 3) := by decide +kernel
theorem dX3_chairsLeft_59 : decode cX3_chairsLeft 59 = .ok (.iload 7, 2) := by decide +kernel
theorem dX3_chairsLeft_61 : decode cX3_chairsLeft 61 = .ok (.goto 9, 3) := by decide +kernel
theorem dX3_chairsLeft_64 : decode cX3_chairsLeft 64 = .ok (.iload_n 2, 1) := by decide +kernel
theorem dX3_chairsLeft_65 : decode cX3_chairsLeft 65 = .ok (.iload 7, 2) := by decide +kernel
theorem dX3_chairsLeft_67 : decode cX3_chairsLeft 67 = .ok (.invokestatic 38, 3) := by decide +kernel
theorem dX3_chairsLeft_70 : decode cX3_chairsLeft 70 = .ok (.istore_n 2, 1) := by decide +kernel
theorem dX3_chairsLeft_71 : decode cX3_chairsLeft 71 = .ok (.iinc 5 1, 3) := by decide +kernel
theorem dX3_chairsLeft_74 : decode cX3_chairsLeft 74 = .ok (.goto (-60), 3) := by decide +kernel
theorem dX3_chairsLeft_77 : decode cX3_chairsLeft 77 = .ok (.iload_n 2, 1) := by decide +kernel
theorem dX3_chairsLeft_78 : decode cX3_chairsLeft 78 = .ok (.ireturn, 1) := by decide +kernel
theorem dX3_coursesThatAre_0 : decode cX3_coursesThatAre 0 = .ok (.iconst 0, 1) := by decide +kernel
theorem dX3_coursesThatAre_1 : decode cX3_coursesThatAre 1 = .ok (.istore_n 2, 1) := by decide +kernel
theorem dX3_coursesThatAre_2 : decode cX3_coursesThatAre 2 = .ok (.aload_n 0, 1) := by decide +kernel
theorem dX3_coursesThatAre_3 : decode cX3_coursesThatAre 3 = .ok (.getfield 11, 3) := by decide +kernel
theorem dX3_coursesThatAre_6 : decode cX3_coursesThatAre 6 = .ok (.astore_n 3, 1) := by decide +kernel
theorem dX3_coursesThatAre_7 : decode cX3_coursesThatAre 7 = .ok (.aload_n 3, 1) := by decide +kernel
theorem dX3_coursesThatAre_8 : decode cX3_coursesThatAre 8 = .ok (.arraylength, 1) := by decide +kernel
theorem dX3_coursesThatAre_9 : decode cX3_coursesThatAre 9 = .ok (.istore 4, 2) := by decide +kernel
theorem dX3_coursesThatAre_11 : decode cX3_coursesThatAre 11 = .ok (.iconst 0, 1) := by decide +kernel
theorem dX3_coursesThatAre_12 : decode cX3_coursesThatAre 12 = .ok (.istore 5, 2) := by decide +kernel
theorem dX3_coursesThatAre_14 : decode cX3_coursesThatAre 14 = .ok (.iload 5, 2) := by decide +kernel
theorem dX3_coursesThatAre_16 : decode cX3_coursesThatAre 16 = .ok (.iload 4, 2) := by decide +kernel
theorem dX3_coursesThatAre_18 : decode cX3_coursesThatAre 18 = .ok (.if_icmp .ge 39, 3) := by decide +kernel
theorem dX3_coursesThatAre_21 : decode cX3_coursesThatAre 21 = .ok (.aload_n 3, 1) := by decide +kernel
theorem dX3_coursesThatAre_22 : decode cX3_coursesThatAre 22 = .ok (.iload 5, 2) := by decide +kernel
theorem dX3_coursesThatAre_24 : decode cX3_coursesThatAre 24 = .ok (.aaload, 1) := by decide +kernel
theorem dX3_coursesThatAre_25 : decode cX3_coursesThatAre 25 = .ok (.astore 6, 2) := by decide +kernel
theorem dX3_coursesThatAre_27 : decode cX3_coursesThatAre 27 = .ok (.aload 6, 2) := by decide +kernel
theorem dX3_coursesThatAre_29 : decode cX3_coursesThatAre 29 = .ok (.ifnull 22, 3) := by decide +kernel
theorem dX3_coursesThatAre_32 : decode cX3_coursesThatAre 32 = .ok (.aload 6, 2) := by decide +kernel
theorem dX3_coursesThatAre_34 : decode cX3_coursesThatAre 34 = .ok (.getfield 162, 3) := by decide +kernel
theorem dX3_coursesThatAre_37 : decode cX3_coursesThatAre 37 = .ok (.iload_n 1, 1) := by decide +kernel
theorem dX3_coursesThatAre_38 : decode cX3_coursesThatAre 38 = .ok (.if_icmp .ne 13, 3) := by decide +kernel
theorem dX3_coursesThatAre_41 : decode cX3_coursesThatAre 41 = .ok (.iload_n 2, 1) := by decide +kernel
theorem dX3_coursesThatAre_42 : decode cX3_coursesThatAre 42 = .ok (.iconst 1, 1) := by decide +kernel
theorem dX3_coursesThatAre_43 : decode cX3_coursesThatAre 43 = .ok (.aload 6, 2) := by decide +kernel
theorem dX3_coursesThatAre_45 : decode cX3_coursesThatAre 45 = .ok (.getfield 96, 3) := by decide +kernel
theorem dX3_coursesThatAre_48 : decode cX3_coursesThatAre 48 = .ok (.ishl, 1) := by decide +kernel
theorem dX3_coursesThatAre_49 : decode cX3_coursesThatAre 49 = .ok (.ior, 1) := by decide +kernel
theorem dX3_coursesThatAre_50 : decode cX3_coursesThatAre 50 = .ok (.istore_n 2, 1) := by decide +kernel
theorem dX3_coursesThatAre_51 : decode cX3_coursesThatAre 51 = .ok (.iinc 5 1, 3) := by decide +kernel
theorem dX3_coursesThatAre_54 : decode cX3_coursesThatAre 54 = .ok (.goto (-40), 3) := by decide +kernel
theorem dX3_coursesThatAre_57 : decode cX3_coursesThatAre 57 = .ok (.iload_n 2, 1) := by decide +kernel
theorem dX3_coursesThatAre_58 : decode cX3_coursesThatAre 58 = .ok (.ireturn, 1) := by decide +kernel
theorem dX3_coursesWithPlace_0 : decode cX3_coursesWithPlace 0 = .ok (.iconst 0, 1) := by decide +kernel
theorem dX3_coursesWithPlace_1 : decode cX3_coursesWithPlace 1 = .ok (.istore_n 1, 1) := by decide +kernel
theorem dX3_coursesWithPlace_2 : decode cX3_coursesWithPlace 2 = .ok (.aload_n 0, 1) := by decide +kernel
theorem dX3_coursesWithPlace_3 : decode cX3_coursesWithPlace 3 = .ok (.getfield 11, 3) := by decide +kernel
theorem dX3_coursesWithPlace_6 : decode cX3_coursesWithPlace 6 = .ok (.astore_n 2, 1) := by decide +kernel
theorem dX3_coursesWithPlace_7 : decode cX3_coursesWithPlace 7 = .ok (.aload_n 2, 1) := by decide +kernel
theorem dX3_coursesWithPlace_8 : decode cX3_coursesWithPlace 8 = .ok (.arraylength, 1) := by decide +kernel
theorem dX3_coursesWithPlace_9 : decode cX3_coursesWithPlace 9 = .ok (.istore_n 3, 1) := by decide +kernel
theorem dX3_coursesWithPlace_10 : decode cX3_coursesWithPlace 10 = .ok (.iconst 0, 1) := by decide +kernel
theorem dX3_coursesWithPlace_11 : decode cX3_coursesWithPlace 11 = .ok (.istore 4, 2) := by decide +kernel
theorem dX3_coursesWithPlace_13 : decode cX3_coursesWithPlace 13 = .ok (.iload 4, 2) := by decide +kernel
theorem dX3_coursesWithPlace_15 : decode cX3_coursesWithPlace 15 = .ok (.iload_n 3, 1) := by decide +kernel
theorem dX3_coursesWithPlace_16 : decode cX3_coursesWithPlace 16 = .ok (.if_icmp .ge 38, 3) := by decide +kernel
theorem dX3_coursesWithPlace_19 : decode cX3_coursesWithPlace 19 = .ok (.aload_n 2, 1) := by decide +kernel
theorem dX3_coursesWithPlace_20 : decode cX3_coursesWithPlace 20 = .ok (.iload 4, 2) := by decide +kernel
theorem dX3_coursesWithPlace_22 : decode cX3_coursesWithPlace 22 = .ok (.aaload, 1) := by decide +kernel
theorem dX3_coursesWithPlace_23 : decode cX3_coursesWithPlace 23 = .ok (.astore 5, 2) := by decide +kernel
theorem dX3_coursesWithPlace_25 : decode cX3_coursesWithPlace 25 = .ok (.aload 5, 2) := by decide +kernel
theorem dX3_coursesWithPlace_27 : decode cX3_coursesWithPlace 27 = .ok (.ifnull 21, 3) := by decide +kernel
theorem dX3_coursesWithPlace_30 : decode cX3_coursesWithPlace 30 = .ok (.aload 5, 2) := by decide +kernel
theorem dX3_coursesWithPlace_32 : decode cX3_coursesWithPlace 32 = .ok (.invokevirtual 185, 3) := by decide +kernel
theorem dX3_coursesWithPlace_35 : decode cX3_coursesWithPlace 35 = .ok (.ifCond .eq 13, 3) := by decide +kernel
theorem dX3_coursesWithPlace_38 : decode cX3_coursesWithPlace 38 = .ok (.iload_n 1, 1) := by decide +kernel
theorem dX3_coursesWithPlace_39 : decode cX3_coursesWithPlace 39 = .ok (.iconst 1, 1) := by decide +kernel
theorem dX3_coursesWithPlace_40 : decode cX3_coursesWithPlace 40 = .ok (.aload 5, 2) := by decide +kernel
theorem dX3_coursesWithPlace_42 : decode cX3_coursesWithPlace 42 = .ok (.getfield 96, 3) := by decide +kernel
theorem dX3_coursesWithPlace_45 : decode cX3_coursesWithPlace 45 = .ok (.ishl, 1) := by decide +kernel
theorem dX3_coursesWithPlace_46 : decode cX3_coursesWithPlace 46 = .ok (.ior, 1) := by decide +kernel
theorem dX3_coursesWithPlace_47 : decode cX3_coursesWithPlace 47 = .ok (.istore_n 1, 1) := by decide +kernel
theorem dX3_coursesWithPlace_48 : decode cX3_coursesWithPlace 48 = .ok (.iinc 4 1, 3) := by decide +kernel
theorem dX3_coursesWithPlace_51 : decode cX3_coursesWithPlace 51 = .ok (.goto (-38), 3) := by decide +kernel
theorem dX3_coursesWithPlace_54 : decode cX3_coursesWithPlace 54 = .ok (.iload_n 1, 1) := by decide +kernel
theorem dX3_coursesWithPlace_55 : decode cX3_coursesWithPlace 55 = .ok (.ireturn, 1) := by decide +kernel
theorem dX3_howManyWait_0 : decode cX3_howManyWait 0 = .ok (.iconst 0, 1) := by decide +kernel
theorem dX3_howManyWait_1 : decode cX3_howManyWait 1 = .ok (.istore_n 2, 1) := by decide +kernel
theorem dX3_howManyWait_2 : decode cX3_howManyWait 2 = .ok (.aload_n 0, 1) := by decide +kernel
theorem dX3_howManyWait_3 : decode cX3_howManyWait 3 = .ok (.getfield 19, 3) := by decide +kernel
theorem dX3_howManyWait_6 : decode cX3_howManyWait 6 = .ok (.astore_n 3, 1) := by decide +kernel
theorem dX3_howManyWait_7 : decode cX3_howManyWait 7 = .ok (.aload_n 3, 1) := by decide +kernel
theorem dX3_howManyWait_8 : decode cX3_howManyWait 8 = .ok (.arraylength, 1) := by decide +kernel
theorem dX3_howManyWait_9 : decode cX3_howManyWait 9 = .ok (.istore 4, 2) := by decide +kernel
theorem dX3_howManyWait_11 : decode cX3_howManyWait 11 = .ok (.iconst 0, 1) := by decide +kernel
theorem dX3_howManyWait_12 : decode cX3_howManyWait 12 = .ok (.istore 5, 2) := by decide +kernel
theorem dX3_howManyWait_14 : decode cX3_howManyWait 14 = .ok (.iload 5, 2) := by decide +kernel
theorem dX3_howManyWait_16 : decode cX3_howManyWait 16 = .ok (.iload 4, 2) := by decide +kernel
theorem dX3_howManyWait_18 : decode cX3_howManyWait 18 = .ok (.if_icmp .ge 32, 3) := by decide +kernel
theorem dX3_howManyWait_21 : decode cX3_howManyWait 21 = .ok (.aload_n 3, 1) := by decide +kernel
theorem dX3_howManyWait_22 : decode cX3_howManyWait 22 = .ok (.iload 5, 2) := by decide +kernel
theorem dX3_howManyWait_24 : decode cX3_howManyWait 24 = .ok (.aaload, 1) := by decide +kernel
theorem dX3_howManyWait_25 : decode cX3_howManyWait 25 = .ok (.astore 6, 2) := by decide +kernel
theorem dX3_howManyWait_27 : decode cX3_howManyWait 27 = .ok (.aload 6, 2) := by decide +kernel
theorem dX3_howManyWait_29 : decode cX3_howManyWait 29 = .ok (.ifnull 15, 3) := by decide +kernel
theorem dX3_howManyWait_32 : decode cX3_howManyWait 32 = .ok (.aload 6, 2) := by decide +kernel
theorem dX3_howManyWait_34 : decode cX3_howManyWait 34 = .ok (.iload_n 1, 1) := by decide +kernel
theorem dX3_howManyWait_35 : decode cX3_howManyWait 35 = .ok (.invokevirtual 246, 3) := by decide +kernel
theorem dX3_howManyWait_38 : decode cX3_howManyWait 38 = .ok (.ifCond .eq 6, 3) := by decide +kernel
theorem dX3_howManyWait_41 : decode cX3_howManyWait 41 = .ok (.iinc 2 1, 3) := by decide +kernel
theorem dX3_howManyWait_44 : decode cX3_howManyWait 44 = .ok (.iinc 5 1, 3) := by decide +kernel
theorem dX3_howManyWait_47 : decode cX3_howManyWait 47 = .ok (.goto (-33), 3) := by decide +kernel
theorem dX3_howManyWait_50 : decode cX3_howManyWait 50 = .ok (.iload_n 2, 1) := by decide +kernel
theorem dX3_howManyWait_51 : decode cX3_howManyWait 51 = .ok (.ireturn, 1) := by decide +kernel
theorem dX3_waiterAt_0 : decode cX3_waiterAt 0 = .ok (.iconst 0, 1) := by decide +kernel
theorem dX3_waiterAt_1 : decode cX3_waiterAt 1 = .ok (.istore_n 3, 1) := by decide +kernel
theorem dX3_waiterAt_2 : decode cX3_waiterAt 2 = .ok (.aload_n 0, 1) := by decide +kernel
theorem dX3_waiterAt_3 : decode cX3_waiterAt 3 = .ok (.getfield 19, 3) := by decide +kernel
theorem dX3_waiterAt_6 : decode cX3_waiterAt 6 = .ok (.astore 4, 2) := by decide +kernel
theorem dX3_waiterAt_8 : decode cX3_waiterAt 8 = .ok (.aload 4, 2) := by decide +kernel
theorem dX3_waiterAt_10 : decode cX3_waiterAt 10 = .ok (.arraylength, 1) := by decide +kernel
theorem dX3_waiterAt_11 : decode cX3_waiterAt 11 = .ok (.istore 5, 2) := by decide +kernel
theorem dX3_waiterAt_13 : decode cX3_waiterAt 13 = .ok (.iconst 0, 1) := by decide +kernel
theorem dX3_waiterAt_14 : decode cX3_waiterAt 14 = .ok (.istore 6, 2) := by decide +kernel
theorem dX3_waiterAt_16 : decode cX3_waiterAt 16 = .ok (.iload 6, 2) := by decide +kernel
theorem dX3_waiterAt_18 : decode cX3_waiterAt 18 = .ok (.iload 5, 2) := by decide +kernel
theorem dX3_waiterAt_20 : decode cX3_waiterAt 20 = .ok (.if_icmp .ge 44, 3) := by decide +kernel
theorem dX3_waiterAt_23 : decode cX3_waiterAt 23 = .ok (.aload 4, 2) := by decide +kernel
theorem dX3_waiterAt_25 : decode cX3_waiterAt 25 = .ok (.iload 6, 2) := by decide +kernel
theorem dX3_waiterAt_27 : decode cX3_waiterAt 27 = .ok (.aaload, 1) := by decide +kernel
theorem dX3_waiterAt_28 : decode cX3_waiterAt 28 = .ok (.astore 7, 2) := by decide +kernel
theorem dX3_waiterAt_30 : decode cX3_waiterAt 30 = .ok (.aload 7, 2) := by decide +kernel
theorem dX3_waiterAt_32 : decode cX3_waiterAt 32 = .ok (.ifnull 26, 3) := by decide +kernel
theorem dX3_waiterAt_35 : decode cX3_waiterAt 35 = .ok (.aload 7, 2) := by decide +kernel
theorem dX3_waiterAt_37 : decode cX3_waiterAt 37 = .ok (.iload_n 1, 1) := by decide +kernel
theorem dX3_waiterAt_38 : decode cX3_waiterAt 38 = .ok (.invokevirtual 246, 3) := by decide +kernel
theorem dX3_waiterAt_41 : decode cX3_waiterAt 41 = .ok (.ifCond .eq 17, 3) := by decide +kernel
theorem dX3_waiterAt_44 : decode cX3_waiterAt 44 = .ok (.iload_n 3, 1) := by decide +kernel
theorem dX3_waiterAt_45 : decode cX3_waiterAt 45 = .ok (.iload_n 2, 1) := by decide +kernel
theorem dX3_waiterAt_46 : decode cX3_waiterAt 46 = .ok (.if_icmp .ne 9, 3) := by decide +kernel
theorem dX3_waiterAt_49 : decode cX3_waiterAt 49 = .ok (.aload 7, 2) := by decide +kernel
theorem dX3_waiterAt_51 : decode cX3_waiterAt 51 = .ok (.getfield 110, 3) := by decide +kernel
theorem dX3_waiterAt_54 : decode cX3_waiterAt 54 = .ok (.ireturn, 1) := by decide +kernel
theorem dX3_waiterAt_55 : decode cX3_waiterAt 55 = .ok (.iinc 3 1, 3) := by decide +kernel
theorem dX3_waiterAt_58 : decode cX3_waiterAt 58 = .ok (.iinc 6 1, 3) := by decide +kernel
theorem dX3_waiterAt_61 : decode cX3_waiterAt 61 = .ok (.goto (-45), 3) := by decide +kernel
theorem dX3_waiterAt_64 : decode cX3_waiterAt 64 = .ok (.iconst (-1), 1) := by decide +kernel
theorem dX3_waiterAt_65 : decode cX3_waiterAt 65 = .ok (.ireturn, 1) := by decide +kernel
theorem dX3_peopleHere_0 : decode cX3_peopleHere 0 = .ok (.iconst 0, 1) := by decide +kernel
theorem dX3_peopleHere_1 : decode cX3_peopleHere 1 = .ok (.istore_n 1, 1) := by decide +kernel
theorem dX3_peopleHere_2 : decode cX3_peopleHere 2 = .ok (.aload_n 0, 1) := by decide +kernel
theorem dX3_peopleHere_3 : decode cX3_peopleHere 3 = .ok (.getfield 19, 3) := by decide +kernel
theorem dX3_peopleHere_6 : decode cX3_peopleHere 6 = .ok (.astore_n 2, 1) := by decide +kernel
theorem dX3_peopleHere_7 : decode cX3_peopleHere 7 = .ok (.aload_n 2, 1) := by decide +kernel
theorem dX3_peopleHere_8 : decode cX3_peopleHere 8 = .ok (.arraylength, 1) := by decide +kernel
theorem dX3_peopleHere_9 : decode cX3_peopleHere 9 = .ok (.istore_n 3, 1) := by decide +kernel
theorem dX3_peopleHere_10 : decode cX3_peopleHere 10 = .ok (.iconst 0, 1) := by decide +kernel
theorem dX3_peopleHere_11 : decode cX3_peopleHere 11 = .ok (.istore 4, 2) := by decide +kernel
theorem dX3_peopleHere_13 : decode cX3_peopleHere 13 = .ok (.iload 4, 2) := by decide +kernel
theorem dX3_peopleHere_15 : decode cX3_peopleHere 15 = .ok (.iload_n 3, 1) := by decide +kernel
theorem dX3_peopleHere_16 : decode cX3_peopleHere 16 = .ok (.if_icmp .ge 31, 3) := by decide +kernel
theorem dX3_peopleHere_19 : decode cX3_peopleHere 19 = .ok (.aload_n 2, 1) := by decide +kernel
theorem dX3_peopleHere_20 : decode cX3_peopleHere 20 = .ok (.iload 4, 2) := by decide +kernel
theorem dX3_peopleHere_22 : decode cX3_peopleHere 22 = .ok (.aaload, 1) := by decide +kernel
theorem dX3_peopleHere_23 : decode cX3_peopleHere 23 = .ok (.astore 5, 2) := by decide +kernel
theorem dX3_peopleHere_25 : decode cX3_peopleHere 25 = .ok (.aload 5, 2) := by decide +kernel
theorem dX3_peopleHere_27 : decode cX3_peopleHere 27 = .ok (.ifnull 14, 3) := by decide +kernel
theorem dX3_peopleHere_30 : decode cX3_peopleHere 30 = .ok (.aload 5, 2) := by decide +kernel
theorem dX3_peopleHere_32 : decode cX3_peopleHere 32 = .ok (.getfield 104, 3) := by decide +kernel
theorem dX3_peopleHere_35 : decode cX3_peopleHere 35 = .ok (.ifCond .eq 6, 3) := by decide +kernel
theorem dX3_peopleHere_38 : decode cX3_peopleHere 38 = .ok (.iinc 1 1, 3) := by decide +kernel
theorem dX3_peopleHere_41 : decode cX3_peopleHere 41 = .ok (.iinc 4 1, 3) := by decide +kernel
theorem dX3_peopleHere_44 : decode cX3_peopleHere 44 = .ok (.goto (-31), 3) := by decide +kernel
theorem dX3_peopleHere_47 : decode cX3_peopleHere 47 = .ok (.iload_n 1, 1) := by decide +kernel
theorem dX3_peopleHere_48 : decode cX3_peopleHere 48 = .ok (.ireturn, 1) := by decide +kernel
theorem dX3_peopleInClasses_0 : decode cX3_peopleInClasses 0 = .ok (.iconst 0, 1) := by decide +kernel
theorem dX3_peopleInClasses_1 : decode cX3_peopleInClasses 1 = .ok (.istore_n 1, 1) := by decide +kernel
theorem dX3_peopleInClasses_2 : decode cX3_peopleInClasses 2 = .ok (.aload_n 0, 1) := by decide +kernel
theorem dX3_peopleInClasses_3 : decode cX3_peopleInClasses 3 = .ok (.getfield 19, 3) := by decide +kernel
theorem dX3_peopleInClasses_6 : decode cX3_peopleInClasses 6 = .ok (.astore_n 2, 1) := by decide +kernel
theorem dX3_peopleInClasses_7 : decode cX3_peopleInClasses 7 = .ok (.aload_n 2, 1) := by decide +kernel
theorem dX3_peopleInClasses_8 : decode cX3_peopleInClasses 8 = .ok (.arraylength, 1) := by decide +kernel
theorem dX3_peopleInClasses_9 : decode cX3_peopleInClasses 9 = .ok (.istore_n 3, 1) := by decide +kernel
theorem dX3_peopleInClasses_10 : decode cX3_peopleInClasses 10 = .ok (.iconst 0, 1) := by decide +kernel
theorem dX3_peopleInClasses_11 : decode cX3_peopleInClasses 11 = .ok (.istore 4, 2) := by decide +kernel
theorem dX3_peopleInClasses_13 : decode cX3_peopleInClasses 13 = .ok (.iload 4, 2) := by decide +kernel
theorem dX3_peopleInClasses_15 : decode cX3_peopleInClasses 15 = .ok (.iload_n 3, 1) := by decide +kernel
theorem dX3_peopleInClasses_16 : decode cX3_peopleInClasses 16 = .ok (.if_icmp .ge 32, 3) := by decide +kernel
theorem dX3_peopleInClasses_19 : decode cX3_peopleInClasses 19 = .ok (.aload_n 2, 1) := by decide +kernel
theorem dX3_peopleInClasses_20 : decode cX3_peopleInClasses 20 = .ok (.iload 4, 2) := by decide +kernel
theorem dX3_peopleInClasses_22 : decode cX3_peopleInClasses 22 = .ok (.aaload, 1) := by decide +kernel
theorem dX3_peopleInClasses_23 : decode cX3_peopleInClasses 23 = .ok (.astore 5, 2) := by decide +kernel
theorem dX3_peopleInClasses_25 : decode cX3_peopleInClasses 25 = .ok (.aload 5, 2) := by decide +kernel
theorem dX3_peopleInClasses_27 : decode cX3_peopleInClasses 27 = .ok (.ifnull 15, 3) := by decide +kernel
theorem dX3_peopleInClasses_30 : decode cX3_peopleInClasses 30 = .ok (.aload 5, 2) := by decide +kernel
theorem dX3_peopleInClasses_32 : decode cX3_peopleInClasses 32 = .ok (.getfield 182, 3) := by decide +kernel
theorem dX3_peopleInClasses_35 : decode cX3_peopleInClasses 35 = .ok (.iconst (-1), 1) := by decide +kernel
theorem dX3_peopleInClasses_36 : decode cX3_peopleInClasses 36 = .ok (.if_icmp .eq 6, 3) := by decide +kernel
theorem dX3_peopleInClasses_39 : decode cX3_peopleInClasses 39 = .ok (.iinc 1 1, 3) := by decide +kernel
theorem dX3_peopleInClasses_42 : decode cX3_peopleInClasses 42 = .ok (.iinc 4 1, 3) := by decide +kernel
theorem dX3_peopleInClasses_45 : decode cX3_peopleInClasses 45 = .ok (.goto (-32), 3) := by decide +kernel
theorem dX3_peopleInClasses_48 : decode cX3_peopleInClasses 48 = .ok (.iload_n 1, 1) := by decide +kernel
theorem dX3_peopleInClasses_49 : decode cX3_peopleInClasses 49 = .ok (.ireturn, 1) := by decide +kernel
theorem dX3_ranksTogether_0 : decode cX3_ranksTogether 0 = .ok (.iconst 0, 1) := by decide +kernel
theorem dX3_ranksTogether_1 : decode cX3_ranksTogether 1 = .ok (.istore_n 1, 1) := by decide +kernel
theorem dX3_ranksTogether_2 : decode cX3_ranksTogether 2 = .ok (.aload_n 0, 1) := by decide +kernel
theorem dX3_ranksTogether_3 : decode cX3_ranksTogether 3 = .ok (.getfield 19, 3) := by decide +kernel
theorem dX3_ranksTogether_6 : decode cX3_ranksTogether 6 = .ok (.astore_n 2, 1) := by decide +kernel
theorem dX3_ranksTogether_7 : decode cX3_ranksTogether 7 = .ok (.aload_n 2, 1) := by decide +kernel
theorem dX3_ranksTogether_8 : decode cX3_ranksTogether 8 = .ok (.arraylength, 1) := by decide +kernel
theorem dX3_ranksTogether_9 : decode cX3_ranksTogether 9 = .ok (.istore_n 3, 1) := by decide +kernel
theorem dX3_ranksTogether_10 : decode cX3_ranksTogether 10 = .ok (.iconst 0, 1) := by decide +kernel
theorem dX3_ranksTogether_11 : decode cX3_ranksTogether 11 = .ok (.istore 4, 2) := by decide +kernel
theorem dX3_ranksTogether_13 : decode cX3_ranksTogether 13 = .ok (.iload 4, 2) := by decide +kernel
theorem dX3_ranksTogether_15 : decode cX3_ranksTogether 15 = .ok (.iload_n 3, 1) := by decide +kernel
theorem dX3_ranksTogether_16 : decode cX3_ranksTogether 16 = .ok (.if_icmp .ge 36, 3) := by decide +kernel
theorem dX3_ranksTogether_19 : decode cX3_ranksTogether 19 = .ok (.aload_n 2, 1) := by decide +kernel
theorem dX3_ranksTogether_20 : decode cX3_ranksTogether 20 = .ok (.iload 4, 2) := by decide +kernel
theorem dX3_ranksTogether_22 : decode cX3_ranksTogether 22 = .ok (.aaload, 1) := by decide +kernel
theorem dX3_ranksTogether_23 : decode cX3_ranksTogether 23 = .ok (.astore 5, 2) := by decide +kernel
theorem dX3_ranksTogether_25 : decode cX3_ranksTogether 25 = .ok (.aload 5, 2) := by decide +kernel
theorem dX3_ranksTogether_27 : decode cX3_ranksTogether 27 = .ok (.ifnull 19, 3) := by decide +kernel
theorem dX3_ranksTogether_30 : decode cX3_ranksTogether 30 = .ok (.aload 5, 2) := by decide +kernel
theorem dX3_ranksTogether_32 : decode cX3_ranksTogether 32 = .ok (.getfield 104, 3) := by decide +kernel
theorem dX3_ranksTogether_35 : decode cX3_ranksTogether 35 = .ok (.ifCond .eq 11, 3) := by decide +kernel
theorem dX3_ranksTogether_38 : decode cX3_ranksTogether 38 = .ok (.iload_n 1, 1) := by decide +kernel
theorem dX3_ranksTogether_39 : decode cX3_ranksTogether 39 = .ok (.aload 5, 2) := by decide +kernel
theorem dX3_ranksTogether_41 : decode cX3_ranksTogether 41 = .ok (.invokevirtual 115, 3) := by decide +kernel
theorem dX3_ranksTogether_44 : decode cX3_ranksTogether 44 = .ok (.iadd, 1) := by decide +kernel
theorem dX3_ranksTogether_45 : decode cX3_ranksTogether 45 = .ok (.istore_n 1, 1) := by decide +kernel
theorem dX3_ranksTogether_46 : decode cX3_ranksTogether 46 = .ok (.iinc 4 1, 3) := by decide +kernel
theorem dX3_ranksTogether_49 : decode cX3_ranksTogether 49 = .ok (.goto (-36), 3) := by decide +kernel
theorem dX3_ranksTogether_52 : decode cX3_ranksTogether 52 = .ok (.iload_n 1, 1) := by decide +kernel
theorem dX3_ranksTogether_53 : decode cX3_ranksTogether 53 = .ok (.ireturn, 1) := by decide +kernel
theorem dX3_paidForClasses_0 : decode cX3_paidForClasses 0 = .ok (.iconst 0, 1) := by decide +kernel
theorem dX3_paidForClasses_1 : decode cX3_paidForClasses 1 = .ok (.istore_n 1, 1) := by decide +kernel
theorem dX3_paidForClasses_2 : decode cX3_paidForClasses 2 = .ok (.aload_n 0, 1) := by decide +kernel
theorem dX3_paidForClasses_3 : decode cX3_paidForClasses 3 = .ok (.getfield 19, 3) := by decide +kernel
theorem dX3_paidForClasses_6 : decode cX3_paidForClasses 6 = .ok (.astore_n 2, 1) := by decide +kernel
theorem dX3_paidForClasses_7 : decode cX3_paidForClasses 7 = .ok (.aload_n 2, 1) := by decide +kernel
theorem dX3_paidForClasses_8 : decode cX3_paidForClasses 8 = .ok (.arraylength, 1) := by decide +kernel
theorem dX3_paidForClasses_9 : decode cX3_paidForClasses 9 = .ok (.istore_n 3, 1) := by decide +kernel
theorem dX3_paidForClasses_10 : decode cX3_paidForClasses 10 = .ok (.iconst 0, 1) := by decide +kernel
theorem dX3_paidForClasses_11 : decode cX3_paidForClasses 11 = .ok (.istore 4, 2) := by decide +kernel
theorem dX3_paidForClasses_13 : decode cX3_paidForClasses 13 = .ok (.iload 4, 2) := by decide +kernel
theorem dX3_paidForClasses_15 : decode cX3_paidForClasses 15 = .ok (.iload_n 3, 1) := by decide +kernel
theorem dX3_paidForClasses_16 : decode cX3_paidForClasses 16 = .ok (.if_icmp .ge 28, 3) := by decide +kernel
theorem dX3_paidForClasses_19 : decode cX3_paidForClasses 19 = .ok (.aload_n 2, 1) := by decide +kernel
theorem dX3_paidForClasses_20 : decode cX3_paidForClasses 20 = .ok (.iload 4, 2) := by decide +kernel
theorem dX3_paidForClasses_22 : decode cX3_paidForClasses 22 = .ok (.aaload, 1) := by decide +kernel
theorem dX3_paidForClasses_23 : decode cX3_paidForClasses 23 = .ok (.astore 5, 2) := by decide +kernel
theorem dX3_paidForClasses_25 : decode cX3_paidForClasses 25 = .ok (.aload 5, 2) := by decide +kernel
theorem dX3_paidForClasses_27 : decode cX3_paidForClasses 27 = .ok (.ifnull 11, 3) := by decide +kernel
theorem dX3_paidForClasses_30 : decode cX3_paidForClasses 30 = .ok (.iload_n 1, 1) := by decide +kernel
theorem dX3_paidForClasses_31 : decode cX3_paidForClasses 31 = .ok (.aload 5, 2) := by decide +kernel
theorem dX3_paidForClasses_33 : decode cX3_paidForClasses 33 = .ok (.getfield 119, 3) := by decide +kernel
theorem dX3_paidForClasses_36 : decode cX3_paidForClasses 36 = .ok (.iadd, 1) := by decide +kernel
theorem dX3_paidForClasses_37 : decode cX3_paidForClasses 37 = .ok (.istore_n 1, 1) := by decide +kernel
theorem dX3_paidForClasses_38 : decode cX3_paidForClasses 38 = .ok (.iinc 4 1, 3) := by decide +kernel
theorem dX3_paidForClasses_41 : decode cX3_paidForClasses 41 = .ok (.goto (-28), 3) := by decide +kernel
theorem dX3_paidForClasses_44 : decode cX3_paidForClasses 44 = .ok (.iload_n 1, 1) := by decide +kernel
theorem dX3_paidForClasses_45 : decode cX3_paidForClasses 45 = .ok (.ireturn, 1) := by decide +kernel
theorem dX4_init_0 : decode cX4_init 0 = .ok (.aload_n 0, 1) := by decide +kernel
theorem dX4_init_1 : decode cX4_init 1 = .ok (.invokespecial 3, 3) := by decide +kernel
theorem dX4_init_4 : decode cX4_init 4 = .ok (.aload_n 0, 1) := by decide +kernel
theorem dX4_init_5 : decode cX4_init 5 = .ok (.bipush 60, 2) := by decide +kernel
theorem dX4_init_7 : decode cX4_init 7 = .ok (.newarray .char, 2) := by decide +kernel
theorem dX4_init_9 : decode cX4_init 9 = .ok (.putfield 9, 3) := by decide +kernel
theorem dX4_init_12 : decode cX4_init 12 = .ok (.aload_n 0, 1) := by decide +kernel
theorem dX4_init_13 : decode cX4_init 13 = .ok (.iconst 4, 1) := by decide +kernel
theorem dX4_init_14 : decode cX4_init 14 = .ok (.newarray .int, 2) := by decide +kernel
theorem dX4_init_16 : decode cX4_init 16 = .ok (.putfield 15, 3) := by decide +kernel
theorem dX4_init_19 : decode cX4_init 19 = .ok (.return_, 1) := by decide +kernel
theorem dX6_init_0 : decode cX6_init 0 = .ok (.aload_n 0, 1) := by decide +kernel
theorem dX6_init_1 : decode cX6_init 1 = .ok (.invokespecial 1, 3) := by decide +kernel
theorem dX6_init_4 : decode cX6_init 4 = .ok (.aload_n 0, 1) := by decide +kernel
theorem dX6_init_5 : decode cX6_init 5 = .ok (.new 7, 3) := by decide +kernel
theorem dX6_init_8 : decode cX6_init 8 = .ok (.dup, 1) := by decide +kernel
theorem dX6_init_9 : decode cX6_init 9 = .ok (.invokespecial 9, 3) := by decide +kernel
theorem dX6_init_12 : decode cX6_init 12 = .ok (.putfield 10, 3) := by decide +kernel
theorem dX6_init_15 : decode cX6_init 15 = .ok (.aload_n 0, 1) := by decide +kernel
theorem dX6_init_16 : decode cX6_init 16 = .ok (.new 7, 3) := by decide +kernel
theorem dX6_init_19 : decode cX6_init 19 = .ok (.dup, 1) := by decide +kernel
theorem dX6_init_20 : decode cX6_init 20 = .ok (.invokespecial 9, 3) := by decide +kernel
theorem dX6_init_23 : decode cX6_init 23 = .ok (.putfield 16, 3) := by decide +kernel
theorem dX6_init_26 : decode cX6_init 26 = .ok (.aload_n 0, 1) := by decide +kernel
theorem dX6_init_27 : decode cX6_init 27 = .ok (.new 19, 3) := by decide +kernel
theorem dX6_init_30 : decode cX6_init 30 = .ok (.dup, 1) := by decide +kernel
theorem dX6_init_31 : decode cX6_init 31 = .ok (.invokespecial 21, 3) := by decide +kernel
theorem dX6_init_34 : decode cX6_init 34 = .ok (.putfield 22, 3) := by decide +kernel
theorem dX6_init_37 : decode cX6_init 37 = .ok (.aload_n 0, 1) := by decide +kernel
theorem dX6_init_38 : decode cX6_init 38 = .ok (.new 26, 3) := by decide +kernel
theorem dX6_init_41 : decode cX6_init 41 = .ok (.dup, 1) := by decide +kernel
theorem dX6_init_42 : decode cX6_init 42 = .ok (.invokespecial 28, 3) := by decide +kernel
theorem dX6_init_45 : decode cX6_init 45 = .ok (.putfield 29, 3) := by decide +kernel
theorem dX6_init_48 : decode cX6_init 48 = .ok (.return_, 1) := by decide +kernel
theorem dX6_course_0 : decode cX6_course 0 = .ok (.aload_n 0, 1) := by decide +kernel
theorem dX6_course_1 : decode cX6_course 1 = .ok (.getfield 22, 3) := by decide +kernel
theorem dX6_course_4 : decode cX6_course 4 = .ok (.aload_n 0, 1) := by decide +kernel
theorem dX6_course_5 : decode cX6_course 5 = .ok (.getfield 10, 3) := by decide +kernel
theorem dX6_course_8 : decode cX6_course 8 = .ok (.invokevirtual 33, 3) := by decide +kernel
theorem dX6_course_11 : decode cX6_course 11 = .ok (.aload_n 0, 1) := by decide +kernel
theorem dX6_course_12 : decode cX6_course 12 = .ok (.getfield 22, 3) := by decide +kernel
theorem dX6_course_15 : decode cX6_course 15 = .ok (.aload_n 0, 1) := by decide +kernel
theorem dX6_course_16 : decode cX6_course 16 = .ok (.getfield 10, 3) := by decide +kernel
theorem dX6_course_19 : decode cX6_course 19 = .ok (.iload_n 1, 1) := by decide +kernel
theorem dX6_course_20 : decode cX6_course 20 = .ok (.iload_n 2, 1) := by decide +kernel
theorem dX6_course_21 : decode cX6_course 21 = .ok (.iload_n 3, 1) := by decide +kernel
theorem dX6_course_22 : decode cX6_course 22 = .ok (.iload 4, 2) := by decide +kernel
theorem dX6_course_24 : decode cX6_course 24 = .ok (.invokevirtual 37, 3) := by decide +kernel
theorem dX6_course_27 : decode cX6_course 27 = .ok (.invokevirtual 41, 3) := by decide +kernel
theorem dX6_course_30 : decode cX6_course 30 = .ok (.ireturn, 1) := by decide +kernel
theorem dX6_room_0 : decode cX6_room 0 = .ok (.aload_n 0, 1) := by decide +kernel
theorem dX6_room_1 : decode cX6_room 1 = .ok (.getfield 22, 3) := by decide +kernel
theorem dX6_room_4 : decode cX6_room 4 = .ok (.aload_n 0, 1) := by decide +kernel
theorem dX6_room_5 : decode cX6_room 5 = .ok (.getfield 10, 3) := by decide +kernel
theorem dX6_room_8 : decode cX6_room 8 = .ok (.invokevirtual 33, 3) := by decide +kernel
theorem dX6_room_11 : decode cX6_room 11 = .ok (.aload_n 0, 1) := by decide +kernel
theorem dX6_room_12 : decode cX6_room 12 = .ok (.getfield 22, 3) := by decide +kernel
theorem dX6_room_15 : decode cX6_room 15 = .ok (.aload_n 0, 1) := by decide +kernel
theorem dX6_room_16 : decode cX6_room 16 = .ok (.getfield 10, 3) := by decide +kernel
theorem dX6_room_19 : decode cX6_room 19 = .ok (.iload_n 1, 1) := by decide +kernel
theorem dX6_room_20 : decode cX6_room 20 = .ok (.invokevirtual 45, 3) := by decide +kernel
theorem dX6_room_23 : decode cX6_room 23 = .ok (.invokevirtual 41, 3) := by decide +kernel
theorem dX6_room_26 : decode cX6_room 26 = .ok (.ireturn, 1) := by decide +kernel
theorem dX6_join_0 : decode cX6_join 0 = .ok (.aload_n 0, 1) := by decide +kernel
theorem dX6_join_1 : decode cX6_join 1 = .ok (.getfield 22, 3) := by decide +kernel
theorem dX6_join_4 : decode cX6_join 4 = .ok (.aload_n 0, 1) := by decide +kernel
theorem dX6_join_5 : decode cX6_join 5 = .ok (.getfield 10, 3) := by decide +kernel
theorem dX6_join_8 : decode cX6_join 8 = .ok (.invokevirtual 33, 3) := by decide +kernel
theorem dX6_join_11 : decode cX6_join 11 = .ok (.aload_n 0, 1) := by decide +kernel
theorem dX6_join_12 : decode cX6_join 12 = .ok (.getfield 22, 3) := by decide +kernel
theorem dX6_join_15 : decode cX6_join 15 = .ok (.aload_n 0, 1) := by decide +kernel
theorem dX6_join_16 : decode cX6_join 16 = .ok (.getfield 10, 3) := by decide +kernel
theorem dX6_join_19 : decode cX6_join 19 = .ok (.iload_n 1, 1) := by decide +kernel
theorem dX6_join_20 : decode cX6_join 20 = .ok (.iload_n 2, 1) := by decide +kernel
theorem dX6_join_21 : decode cX6_join 21 = .ok (.iload_n 3, 1) := by decide +kernel
theorem dX6_join_22 : decode cX6_join 22 = .ok (.invokevirtual 48, 3) := by decide +kernel
theorem dX6_join_25 : decode cX6_join 25 = .ok (.invokevirtual 41, 3) := by decide +kernel
theorem dX6_join_28 : decode cX6_join 28 = .ok (.ireturn, 1) := by decide +kernel
theorem dX6_wish_0 : decode cX6_wish 0 = .ok (.aload_n 0, 1) := by decide +kernel
theorem dX6_wish_1 : decode cX6_wish 1 = .ok (.getfield 22, 3) := by decide +kernel
theorem dX6_wish_4 : decode cX6_wish 4 = .ok (.aload_n 0, 1) := by decide +kernel
theorem dX6_wish_5 : decode cX6_wish 5 = .ok (.getfield 10, 3) := by decide +kernel
theorem dX6_wish_8 : decode cX6_wish 8 = .ok (.invokevirtual 33, 3) := by decide +kernel
theorem dX6_wish_11 : decode cX6_wish 11 = .ok (.aload_n 0, 1) := by decide +kernel
theorem dX6_wish_12 : decode cX6_wish 12 = .ok (.getfield 22, 3) := by decide +kernel
theorem dX6_wish_15 : decode cX6_wish 15 = .ok (.aload_n 0, 1) := by decide +kernel
theorem dX6_wish_16 : decode cX6_wish 16 = .ok (.getfield 10, 3) := by decide +kernel
theorem dX6_wish_19 : decode cX6_wish 19 = .ok (.iload_n 1, 1) := by decide +kernel
theorem dX6_wish_20 : decode cX6_wish 20 = .ok (.iload_n 2, 1) := by decide +kernel
theorem dX6_wish_21 : decode cX6_wish 21 = .ok (.iload_n 3, 1) := by decide +kernel
theorem dX6_wish_22 : decode cX6_wish 22 = .ok (.iload 4, 2) := by decide +kernel
theorem dX6_wish_24 : decode cX6_wish 24 = .ok (.invokevirtual 52, 3) := by decide +kernel
theorem dX6_wish_27 : decode cX6_wish 27 = .ok (.invokevirtual 41, 3) := by decide +kernel
theorem dX6_wish_30 : decode cX6_wish 30 = .ok (.ireturn, 1) := by decide +kernel
theorem dX6_leave_0 : decode cX6_leave 0 = .ok (.aload_n 0, 1) := by decide +kernel
theorem dX6_leave_1 : decode cX6_leave 1 = .ok (.getfield 22, 3) := by decide +kernel
theorem dX6_leave_4 : decode cX6_leave 4 = .ok (.aload_n 0, 1) := by decide +kernel
theorem dX6_leave_5 : decode cX6_leave 5 = .ok (.getfield 10, 3) := by decide +kernel
theorem dX6_leave_8 : decode cX6_leave 8 = .ok (.invokevirtual 33, 3) := by decide +kernel
theorem dX6_leave_11 : decode cX6_leave 11 = .ok (.aload_n 0, 1) := by decide +kernel
theorem dX6_leave_12 : decode cX6_leave 12 = .ok (.getfield 22, 3) := by decide +kernel
theorem dX6_leave_15 : decode cX6_leave 15 = .ok (.aload_n 0, 1) := by decide +kernel
theorem dX6_leave_16 : decode cX6_leave 16 = .ok (.getfield 10, 3) := by decide +kernel
theorem dX6_leave_19 : decode cX6_leave 19 = .ok (.iload_n 1, 1) := by decide +kernel
theorem dX6_leave_20 : decode cX6_leave 20 = .ok (.invokevirtual 55, 3) := by decide +kernel
theorem dX6_leave_23 : decode cX6_leave 23 = .ok (.invokevirtual 41, 3) := by decide +kernel
theorem dX6_leave_26 : decode cX6_leave 26 = .ok (.ireturn, 1) := by decide +kernel
theorem dX6_close_0 : decode cX6_close 0 = .ok (.aload_n 0, 1) := by decide +kernel
theorem dX6_close_1 : decode cX6_close 1 = .ok (.getfield 22, 3) := by decide +kernel
theorem dX6_close_4 : decode cX6_close 4 = .ok (.aload_n 0, 1) := by decide +kernel
theorem dX6_close_5 : decode cX6_close 5 = .ok (.getfield 10, 3) := by decide +kernel
theorem dX6_close_8 : decode cX6_close 8 = .ok (.invokevirtual 33, 3) := by decide +kernel
theorem dX6_close_11 : decode cX6_close 11 = .ok (.aload_n 0, 1) := by decide +kernel
theorem dX6_close_12 : decode cX6_close 12 = .ok (.getfield 22, 3) := by decide +kernel
theorem dX6_close_15 : decode cX6_close 15 = .ok (.aload_n 0, 1) := by decide +kernel
theorem dX6_close_16 : decode cX6_close 16 = .ok (.getfield 10, 3) := by decide +kernel
theorem dX6_close_19 : decode cX6_close 19 = .ok (.invokevirtual 58, 3) := by decide +kernel
theorem dX6_close_22 : decode cX6_close 22 = .ok (.invokevirtual 41, 3) := by decide +kernel
theorem dX6_close_25 : decode cX6_close 25 = .ok (.ireturn, 1) := by decide +kernel
theorem dX6_term_0 : decode cX6_term 0 = .ok (.aload_n 0, 1) := by decide +kernel
theorem dX6_term_1 : decode cX6_term 1 = .ok (.getfield 22, 3) := by decide +kernel
theorem dX6_term_4 : decode cX6_term 4 = .ok (.aload_n 0, 1) := by decide +kernel
theorem dX6_term_5 : decode cX6_term 5 = .ok (.getfield 10, 3) := by decide +kernel
theorem dX6_term_8 : decode cX6_term 8 = .ok (.invokevirtual 33, 3) := by decide +kernel
theorem dX6_term_11 : decode cX6_term 11 = .ok (.aload_n 0, 1) := by decide +kernel
theorem dX6_term_12 : decode cX6_term 12 = .ok (.getfield 22, 3) := by decide +kernel
theorem dX6_term_15 : decode cX6_term 15 = .ok (.aload_n 0, 1) := by decide +kernel
theorem dX6_term_16 : decode cX6_term 16 = .ok (.getfield 10, 3) := by decide +kernel
theorem dX6_term_19 : decode cX6_term 19 = .ok (.invokevirtual 62, 3) := by decide +kernel
theorem dX6_term_22 : decode cX6_term 22 = .ok (.invokevirtual 41, 3) := by decide +kernel
theorem dX6_term_25 : decode cX6_term 25 = .ok (.ireturn, 1) := by decide +kernel
theorem dX6_courseOf_0 : decode cX6_courseOf 0 = .ok (.aload_n 0, 1) := by decide +kernel
theorem dX6_courseOf_1 : decode cX6_courseOf 1 = .ok (.getfield 10, 3) := by decide +kernel
theorem dX6_courseOf_4 : decode cX6_courseOf 4 = .ok (.iload_n 1, 1) := by decide +kernel
theorem dX6_courseOf_5 : decode cX6_courseOf 5 = .ok (.invokevirtual 65, 3) := by decide +kernel
theorem dX6_courseOf_8 : decode cX6_courseOf 8 = .ok (.astore_n 3, 1) := by decide +kernel
theorem dX6_courseOf_9 : decode cX6_courseOf 9 = .ok (.aload_n 3, 1) := by decide +kernel
theorem dX6_courseOf_10 : decode cX6_courseOf 10 = .ok (.ifnonnull 6, 3) := by decide +kernel
theorem dX6_courseOf_13 : decode cX6_courseOf 13 = .ok (.ldc 69, 2) := by decide +kernel
theorem dX6_courseOf_15 : decode cX6_courseOf 15 = .ok (.ireturn, 1) := by decide +kernel
theorem dX6_courseOf_16 : decode cX6_courseOf 16 = .ok (.iload_n 2, 1) := by decide +kernel
theorem dX6_courseOf_17 : decode cX6_courseOf 17 = .ok (.tableswitch 151 0 12 #[67, 72, 77, 82, 87, 92, 97, 102, 107, 116, 124, 132, 146], 67) := by decide +kernel
theorem dX6_courseOf_84 : decode cX6_courseOf 84 = .ok (.aload_n 3, 1) := by decide +kernel
theorem dX6_courseOf_85 : decode cX6_courseOf 85 = .ok (.getfield 70, 3) := by decide +kernel
theorem dX6_courseOf_88 : decode cX6_courseOf 88 = .ok (.ireturn, 1) := by decide +kernel
theorem dX6_courseOf_89 : decode cX6_courseOf 89 = .ok (.aload_n 3, 1) := by decide +kernel
theorem dX6_courseOf_90 : decode cX6_courseOf 90 = .ok (.getfield 76, 3) := by decide +kernel
theorem dX6_courseOf_93 : decode cX6_courseOf 93 = .ok (.ireturn, 1) := by decide +kernel
theorem dX6_courseOf_94 : decode cX6_courseOf 94 = .ok (.aload_n 3, 1) := by decide +kernel
theorem dX6_courseOf_95 : decode cX6_courseOf 95 = .ok (.getfield 79, 3) := by decide +kernel
theorem dX6_courseOf_98 : decode cX6_courseOf 98 = .ok (.ireturn, 1) := by decide +kernel
theorem dX6_courseOf_99 : decode cX6_courseOf 99 = .ok (.aload_n 3, 1) := by decide +kernel
theorem dX6_courseOf_100 : decode cX6_courseOf 100 = .ok (.getfield 82, 3) := by decide +kernel
theorem dX6_courseOf_103 : decode cX6_courseOf 103 = .ok (.ireturn, 1) := by decide +kernel
theorem dX6_courseOf_104 : decode cX6_courseOf 104 = .ok (.aload_n 3, 1) := by decide +kernel
theorem dX6_courseOf_105 : decode cX6_courseOf 105 = .ok (.getfield 85, 3) := by decide +kernel
theorem dX6_courseOf_108 : decode cX6_courseOf 108 = .ok (.ireturn, 1) := by decide +kernel
theorem dX6_courseOf_109 : decode cX6_courseOf 109 = .ok (.aload_n 3, 1) := by decide +kernel
theorem dX6_courseOf_110 : decode cX6_courseOf 110 = .ok (.getfield 88, 3) := by decide +kernel
theorem dX6_courseOf_113 : decode cX6_courseOf 113 = .ok (.ireturn, 1) := by decide +kernel
theorem dX6_courseOf_114 : decode cX6_courseOf 114 = .ok (.aload_n 3, 1) := by decide +kernel
theorem dX6_courseOf_115 : decode cX6_courseOf 115 = .ok (.getfield 91, 3) := by decide +kernel
theorem dX6_courseOf_118 : decode cX6_courseOf 118 = .ok (.ireturn, 1) := by decide +kernel
theorem dX6_courseOf_119 : decode cX6_courseOf 119 = .ok (.aload_n 3, 1) := by decide +kernel
theorem dX6_courseOf_120 : decode cX6_courseOf 120 = .ok (.getfield 94, 3) := by decide +kernel
theorem dX6_courseOf_123 : decode cX6_courseOf 123 = .ok (.ireturn, 1) := by decide +kernel
theorem dX6_courseOf_124 : decode cX6_courseOf 124 = .ok (.aload_n 0, 1) := by decide +kernel
theorem dX6_courseOf_125 : decode cX6_courseOf 125 = .ok (.getfield 10, 3) := by decide +kernel
theorem dX6_courseOf_128 : decode cX6_courseOf 128 = .ok (.iload_n 1, 1) := by decide +kernel
theorem dX6_courseOf_129 : decode cX6_courseOf 129 = .ok (.invokevirtual 97, 3) := by decide +kernel
theorem dX6_courseOf_132 : decode cX6_courseOf 132 = .ok (.ireturn, 1) := by decide +kernel
theorem dX6_courseOf_133 : decode cX6_courseOf 133 = .ok (.aload_n 3, 1) := by decide +kernel
theorem dX6_courseOf_134 : decode cX6_courseOf 134 = .ok (.getfield 100, 3) := by decide +kernel
theorem dX6_courseOf_137 : decode cX6_courseOf 137 = .ok (.invokestatic 103, 3) := by decide +kernel
theorem dX6_courseOf_140 : decode cX6_courseOf 140 = .ok (.ireturn, 1) := by decide +kernel
theorem dX6_courseOf_141 : decode cX6_courseOf 141 = .ok (.aload_n 3, 1) := by decide +kernel
theorem dX6_courseOf_142 : decode cX6_courseOf 142 = .ok (.getfield 106, 3) := by decide +kernel
theorem dX6_courseOf_145 : decode cX6_courseOf 145 = .ok (.invokestatic 103, 3) := by decide +kernel
theorem dX6_courseOf_148 : decode cX6_courseOf 148 = .ok (.ireturn, 1) := by decide +kernel
theorem dX6_courseOf_149 : decode cX6_courseOf 149 = .ok (.iconst 0, 1) := by decide +kernel
theorem dX6_courseOf_150 : decode cX6_courseOf 150 = .ok (.aload_n 3, 1) := by decide +kernel
theorem dX6_courseOf_151 : decode cX6_courseOf 151 = .ok (.getfield 82, 3) := by decide +kernel
theorem dX6_courseOf_154 : decode cX6_courseOf 154 = .ok (.aload_n 3, 1) := by decide +kernel
theorem dX6_courseOf_155 : decode cX6_courseOf 155 = .ok (.getfield 94, 3) := by decide +kernel
theorem dX6_courseOf_158 : decode cX6_courseOf 158 = .ok (.isub, 1) := by decide +kernel
theorem dX6_courseOf_159 : decode cX6_courseOf 159 = .ok (.invokestatic 109, 3) := by decide +kernel
theorem dX6_courseOf_162 : decode cX6_courseOf 162 = .ok (.ireturn, 1) := by decide +kernel
theorem dX6_courseOf_163 : decode cX6_courseOf 163 = .ok (.aload_n 3, 1) := by decide +kernel
theorem dX6_courseOf_164 : decode cX6_courseOf 164 = .ok (.getfield 115, 3) := by decide +kernel
theorem dX6_courseOf_167 : decode cX6_courseOf 167 = .ok (.ireturn, 1) := by decide +kernel
theorem dX6_courseOf_168 : decode cX6_courseOf 168 = .ok (.ldc 69, 2) := by decide +kernel
theorem dX6_courseOf_170 : decode cX6_courseOf 170 = .ok (.ireturn, 1) := by decide +kernel
theorem dX6_member_0 : decode cX6_member 0 = .ok (.aload_n 0, 1) := by decide +kernel
theorem dX6_member_1 : decode cX6_member 1 = .ok (.getfield 10, 3) := by decide +kernel
theorem dX6_member_4 : decode cX6_member 4 = .ok (.iload_n 1, 1) := by decide +kernel
theorem dX6_member_5 : decode cX6_member 5 = .ok (.invokevirtual 65, 3) := by decide +kernel
theorem dX6_member_8 : decode cX6_member 8 = .ok (.astore_n 3, 1) := by decide +kernel
theorem dX6_member_9 : decode cX6_member 9 = .ok (.aload_n 3, 1) := by decide +kernel
theorem dX6_member_10 : decode cX6_member 10 = .ok (.ifnull 7, 3) := by decide +kernel
theorem dX6_member_13 : decode cX6_member 13 = .ok (.iload_n 2, 1) := by decide +kernel
theorem dX6_member_14 : decode cX6_member 14 = .ok (.ifCond .ge 6, 3) := by decide +kernel
theorem dX6_member_17 : decode cX6_member 17 = .ok (.ldc 69, 2) := by decide +kernel
theorem dX6_member_19 : decode cX6_member 19 = .ok (.ireturn, 1) := by decide +kernel
theorem dX6_member_20 : decode cX6_member 20 = .ok (.aload_n 3, 1) := by decide +kernel
theorem dX6_member_21 : decode cX6_member 21 = .ok (.iload_n 2, 1) := by decide +kernel
theorem dX6_member_22 : decode cX6_member 22 = .ok (.invokevirtual 118, 3) := by decide +kernel
theorem dX6_member_25 : decode cX6_member 25 = .ok (.invokestatic 103, 3) := by decide +kernel
theorem dX6_member_28 : decode cX6_member 28 = .ok (.ireturn, 1) := by decide +kernel
theorem dX6_waits_0 : decode cX6_waits 0 = .ok (.aload_n 0, 1) := by decide +kernel
theorem dX6_waits_1 : decode cX6_waits 1 = .ok (.getfield 10, 3) := by decide +kernel
theorem dX6_waits_4 : decode cX6_waits 4 = .ok (.iload_n 1, 1) := by decide +kernel
theorem dX6_waits_5 : decode cX6_waits 5 = .ok (.invokevirtual 65, 3) := by decide +kernel
theorem dX6_waits_8 : decode cX6_waits 8 = .ok (.ifnull 7, 3) := by decide +kernel
theorem dX6_waits_11 : decode cX6_waits 11 = .ok (.iload_n 2, 1) := by decide +kernel
theorem dX6_waits_12 : decode cX6_waits 12 = .ok (.ifCond .ge 6, 3) := by decide +kernel
theorem dX6_waits_15 : decode cX6_waits 15 = .ok (.ldc 69, 2) := by decide +kernel
theorem dX6_waits_17 : decode cX6_waits 17 = .ok (.ireturn, 1) := by decide +kernel
theorem dX6_waits_18 : decode cX6_waits 18 = .ok (.aload_n 0, 1) := by decide +kernel
theorem dX6_waits_19 : decode cX6_waits 19 = .ok (.getfield 10, 3) := by decide +kernel
theorem dX6_waits_22 : decode cX6_waits 22 = .ok (.iload_n 1, 1) := by decide +kernel
theorem dX6_waits_23 : decode cX6_waits 23 = .ok (.iload_n 2, 1) := by decide +kernel
theorem dX6_waits_24 : decode cX6_waits 24 = .ok (.invokevirtual 121, 3) := by decide +kernel
theorem dX6_waits_27 : decode cX6_waits 27 = .ok (.invokestatic 103, 3) := by decide +kernel
theorem dX6_waits_30 : decode cX6_waits 30 = .ok (.ireturn, 1) := by decide +kernel
theorem dX6_personOf_0 : decode cX6_personOf 0 = .ok (.aload_n 0, 1) := by decide +kernel
theorem dX6_personOf_1 : decode cX6_personOf 1 = .ok (.getfield 10, 3) := by decide +kernel
theorem dX6_personOf_4 : decode cX6_personOf 4 = .ok (.iload_n 1, 1) := by decide +kernel
theorem dX6_personOf_5 : decode cX6_personOf 5 = .ok (.invokevirtual 124, 3) := by decide +kernel
theorem dX6_personOf_8 : decode cX6_personOf 8 = .ok (.astore_n 3, 1) := by decide +kernel
theorem dX6_personOf_9 : decode cX6_personOf 9 = .ok (.aload_n 3, 1) := by decide +kernel
theorem dX6_personOf_10 : decode cX6_personOf 10 = .ok (.ifnonnull 6, 3) := by decide +kernel
theorem dX6_personOf_13 : decode cX6_personOf 13 = .ok (.ldc 69, 2) := by decide +kernel
theorem dX6_personOf_15 : decode cX6_personOf 15 = .ok (.ireturn, 1) := by decide +kernel
theorem dX6_personOf_16 : decode cX6_personOf 16 = .ok (.iload_n 2, 1) := by decide +kernel
theorem dX6_personOf_17 : decode cX6_personOf 17 = .ok (.tableswitch 107 0 7 #[47, 60, 68, 73, 78, 83, 91, 99], 47) := by decide +kernel
theorem dX6_personOf_64 : decode cX6_personOf 64 = .ok (.aload_n 3, 1) := by decide +kernel
theorem dX6_personOf_65 : decode cX6_personOf 65 = .ok (.getfield 128, 3) := by decide +kernel
theorem dX6_personOf_68 : decode cX6_personOf 68 = .ok (.ifCond .eq 7, 3) := by decide +kernel
theorem dX6_personOf_71 : decode cX6_personOf 71 = .ok (.iconst 1, 1) := by decide +kernel
theorem dX6_personOf_72 : decode cX6_personOf 72 = .ok (.goto 4, 3) := by decide +kernel
theorem dX6_personOf_75 : decode cX6_personOf 75 = .ok (.iconst 0, 1) := by decide +kernel
theorem dX6_personOf_76 : decode cX6_personOf 76 = .ok (.ireturn, 1) := by decide +kernel
theorem dX6_personOf_77 : decode cX6_personOf 77 = .ok (.aload_n 3, 1) := by decide +kernel
theorem dX6_personOf_78 : decode cX6_personOf 78 = .ok (.getfield 134, 3) := by decide +kernel
theorem dX6_personOf_81 : decode cX6_personOf 81 = .ok (.invokestatic 103, 3) := by decide +kernel
theorem dX6_personOf_84 : decode cX6_personOf 84 = .ok (.ireturn, 1) := by decide +kernel
theorem dX6_personOf_85 : decode cX6_personOf 85 = .ok (.aload_n 3, 1) := by decide +kernel
theorem dX6_personOf_86 : decode cX6_personOf 86 = .ok (.invokevirtual 137, 3) := by decide +kernel
theorem dX6_personOf_89 : decode cX6_personOf 89 = .ok (.ireturn, 1) := by decide +kernel
theorem dX6_personOf_90 : decode cX6_personOf 90 = .ok (.aload_n 3, 1) := by decide +kernel
theorem dX6_personOf_91 : decode cX6_personOf 91 = .ok (.getfield 140, 3) := by decide +kernel
theorem dX6_personOf_94 : decode cX6_personOf 94 = .ok (.ireturn, 1) := by decide +kernel
theorem dX6_personOf_95 : decode cX6_personOf 95 = .ok (.aload_n 3, 1) := by decide +kernel
theorem dX6_personOf_96 : decode cX6_personOf 96 = .ok (.getfield 143, 3) := by decide +kernel
theorem dX6_personOf_99 : decode cX6_personOf 99 = .ok (.ireturn, 1) := by decide +kernel
theorem dX6_personOf_100 : decode cX6_personOf 100 = .ok (.aload_n 3, 1) := by decide +kernel
theorem dX6_personOf_101 : decode cX6_personOf 101 = .ok (.getfield 146, 3) := by decide +kernel
theorem dX6_personOf_104 : decode cX6_personOf 104 = .ok (.invokestatic 103, 3) := by decide +kernel
theorem dX6_personOf_107 : decode cX6_personOf 107 = .ok (.ireturn, 1) := by decide +kernel
theorem dX6_personOf_108 : decode cX6_personOf 108 = .ok (.aload_n 3, 1) := by decide +kernel
theorem dX6_personOf_109 : decode cX6_personOf 109 = .ok (.getfield 149, 3) := by decide +kernel
theorem dX6_personOf_112 : decode cX6_personOf 112 = .ok (.invokestatic 103, 3) := by decide +kernel
theorem dX6_personOf_115 : decode cX6_personOf 115 = .ok (.ireturn, 1) := by decide +kernel
theorem dX6_personOf_116 : decode cX6_personOf 116 = .ok (.aload_n 3, 1) := by decide +kernel
theorem dX6_personOf_117 : decode cX6_personOf 117 = .ok (.getfield 152, 3) := by decide +kernel
theorem dX6_personOf_120 : decode cX6_personOf 120 = .ok (.invokestatic 103, 3) := by decide +kernel
theorem dX6_personOf_123 : decode cX6_personOf 123 = .ok (.ireturn, 1) := by decide +kernel
theorem dX6_personOf_124 : decode cX6_personOf 124 = .ok (.ldc 69, 2) := by decide +kernel
theorem dX6_personOf_126 : decode cX6_personOf 126 = .ok (.ireturn, 1) := by decide +kernel
theorem dX6_roomOf_0 : decode cX6_roomOf 0 = .ok (.aload_n 0, 1) := by decide +kernel
theorem dX6_roomOf_1 : decode cX6_roomOf 1 = .ok (.getfield 10, 3) := by decide +kernel
theorem dX6_roomOf_4 : decode cX6_roomOf 4 = .ok (.iload_n 1, 1) := by decide +kernel
theorem dX6_roomOf_5 : decode cX6_roomOf 5 = .ok (.invokevirtual 155, 3) := by decide +kernel
theorem dX6_roomOf_8 : decode cX6_roomOf 8 = .ok (.ifCond .ne 6, 3) := by decide +kernel
theorem dX6_roomOf_11 : decode cX6_roomOf 11 = .ok (.ldc 69, 2) := by decide +kernel
theorem dX6_roomOf_13 : decode cX6_roomOf 13 = .ok (.ireturn, 1) := by decide +kernel
theorem dX6_roomOf_14 : decode cX6_roomOf 14 = .ok (.iload_n 2, 1) := by decide +kernel
theorem dX6_roomOf_15 : decode cX6_roomOf 15 = .ok (.tableswitch 55 0 2 #[25, 34, 43], 25) := by decide +kernel
theorem dX6_roomOf_40 : decode cX6_roomOf 40 = .ok (.aload_n 0, 1) := by decide +kernel
theorem dX6_roomOf_41 : decode cX6_roomOf 41 = .ok (.getfield 10, 3) := by decide +kernel
theorem dX6_roomOf_44 : decode cX6_roomOf 44 = .ok (.iload_n 1, 1) := by decide +kernel
theorem dX6_roomOf_45 : decode cX6_roomOf 45 = .ok (.invokevirtual 159, 3) := by decide +kernel
theorem dX6_roomOf_48 : decode cX6_roomOf 48 = .ok (.ireturn, 1) := by decide +kernel
theorem dX6_roomOf_49 : decode cX6_roomOf 49 = .ok (.aload_n 0, 1) := by decide +kernel
theorem dX6_roomOf_50 : decode cX6_roomOf 50 = .ok (.getfield 10, 3) := by decide +kernel
theorem dX6_roomOf_53 : decode cX6_roomOf 53 = .ok (.iload_n 1, 1) := by decide +kernel
theorem dX6_roomOf_54 : decode cX6_roomOf 54 = .ok (.invokevirtual 162, 3) := by decide +kernel
theorem dX6_roomOf_57 : decode cX6_roomOf 57 = .ok (.ireturn, 1) := by decide +kernel
theorem dX6_roomOf_58 : decode cX6_roomOf 58 = .ok (.aload_n 0, 1) := by decide +kernel
theorem dX6_roomOf_59 : decode cX6_roomOf 59 = .ok (.getfield 10, 3) := by decide +kernel
theorem dX6_roomOf_62 : decode cX6_roomOf 62 = .ok (.iload_n 1, 1) := by decide +kernel
theorem dX6_roomOf_63 : decode cX6_roomOf 63 = .ok (.invokevirtual 165, 3) := by decide +kernel
theorem dX6_roomOf_66 : decode cX6_roomOf 66 = .ok (.invokestatic 103, 3) := by decide +kernel
theorem dX6_roomOf_69 : decode cX6_roomOf 69 = .ok (.ireturn, 1) := by decide +kernel
theorem dX6_roomOf_70 : decode cX6_roomOf 70 = .ok (.ldc 69, 2) := by decide +kernel
theorem dX6_roomOf_72 : decode cX6_roomOf 72 = .ok (.ireturn, 1) := by decide +kernel
theorem dX6_ifClose_0 : decode cX6_ifClose 0 = .ok (.iload_n 1, 1) := by decide +kernel
theorem dX6_ifClose_1 : decode cX6_ifClose 1 = .ok (.iconst 0, 1) := by decide +kernel
theorem dX6_ifClose_2 : decode cX6_ifClose 2 = .ok (.iconst 5, 1) := by decide +kernel
theorem dX6_ifClose_3 : decode cX6_ifClose 3 = .ok (.invokestatic 168, 3) := by decide +kernel
theorem dX6_ifClose_6 : decode cX6_ifClose 6 = .ok (.ifCond .eq 6, 3) := by decide +kernel
theorem dX6_ifClose_9 : decode cX6_ifClose 9 = .ok (.ldc 69, 2) := by decide +kernel
theorem dX6_ifClose_11 : decode cX6_ifClose 11 = .ok (.ireturn, 1) := by decide +kernel
theorem dX6_ifClose_12 : decode cX6_ifClose 12 = .ok (.aload_n 0, 1) := by decide +kernel
theorem dX6_ifClose_13 : decode cX6_ifClose 13 = .ok (.getfield 10, 3) := by decide +kernel
theorem dX6_ifClose_16 : decode cX6_ifClose 16 = .ok (.getfield 172, 3) := by decide +kernel
theorem dX6_ifClose_19 : decode cX6_ifClose 19 = .ok (.ifCond .eq 6, 3) := by decide +kernel
theorem dX6_ifClose_22 : decode cX6_ifClose 22 = .ok (.ldc 175, 2) := by decide +kernel
theorem dX6_ifClose_24 : decode cX6_ifClose 24 = .ok (.ireturn, 1) := by decide +kernel
theorem dX6_ifClose_25 : decode cX6_ifClose 25 = .ok (.aload_n 0, 1) := by decide +kernel
theorem dX6_ifClose_26 : decode cX6_ifClose 26 = .ok (.getfield 16, 3) := by decide +kernel
theorem dX6_ifClose_29 : decode cX6_ifClose 29 = .ok (.aload_n 0, 1) := by decide +kernel
theorem dX6_ifClose_30 : decode cX6_ifClose 30 = .ok (.getfield 10, 3) := by decide +kernel
theorem dX6_ifClose_33 : decode cX6_ifClose 33 = .ok (.invokevirtual 176, 3) := by decide +kernel
theorem dX6_ifClose_36 : decode cX6_ifClose 36 = .ok (.aload_n 0, 1) := by decide +kernel
theorem dX6_ifClose_37 : decode cX6_ifClose 37 = .ok (.getfield 16, 3) := by decide +kernel
theorem dX6_ifClose_40 : decode cX6_ifClose 40 = .ok (.invokevirtual 58, 3) := by decide +kernel
theorem dX6_ifClose_43 : decode cX6_ifClose 43 = .ok (.pop, 1) := by decide +kernel
theorem dX6_ifClose_44 : decode cX6_ifClose 44 = .ok (.iload_n 1, 1) := by decide +kernel
theorem dX6_ifClose_45 : decode cX6_ifClose 45 = .ok (.tableswitch 86 0 4 #[35, 44, 53, 62, 70], 35) := by decide +kernel
theorem dX6_ifClose_80 : decode cX6_ifClose 80 = .ok (.aload_n 0, 1) := by decide +kernel
theorem dX6_ifClose_81 : decode cX6_ifClose 81 = .ok (.getfield 16, 3) := by decide +kernel
theorem dX6_ifClose_84 : decode cX6_ifClose 84 = .ok (.iconst 1, 1) := by decide +kernel
theorem dX6_ifClose_85 : decode cX6_ifClose 85 = .ok (.invokevirtual 179, 3) := by decide +kernel
theorem dX6_ifClose_88 : decode cX6_ifClose 88 = .ok (.ireturn, 1) := by decide +kernel
theorem dX6_ifClose_89 : decode cX6_ifClose 89 = .ok (.aload_n 0, 1) := by decide +kernel
theorem dX6_ifClose_90 : decode cX6_ifClose 90 = .ok (.getfield 16, 3) := by decide +kernel
theorem dX6_ifClose_93 : decode cX6_ifClose 93 = .ok (.iconst 2, 1) := by decide +kernel
theorem dX6_ifClose_94 : decode cX6_ifClose 94 = .ok (.invokevirtual 179, 3) := by decide +kernel
theorem dX6_ifClose_97 : decode cX6_ifClose 97 = .ok (.ireturn, 1) := by decide +kernel
theorem dX6_ifClose_98 : decode cX6_ifClose 98 = .ok (.aload_n 0, 1) := by decide +kernel
theorem dX6_ifClose_99 : decode cX6_ifClose 99 = .ok (.getfield 16, 3) := by decide +kernel
theorem dX6_ifClose_102 : decode cX6_ifClose 102 = .ok (.iconst 3, 1) := by decide +kernel
theorem dX6_ifClose_103 : decode cX6_ifClose 103 = .ok (.invokevirtual 179, 3) := by decide +kernel
theorem dX6_ifClose_106 : decode cX6_ifClose 106 = .ok (.ireturn, 1) := by decide +kernel
theorem dX6_ifClose_107 : decode cX6_ifClose 107 = .ok (.aload_n 0, 1) := by decide +kernel
theorem dX6_ifClose_108 : decode cX6_ifClose 108 = .ok (.getfield 16, 3) := by decide +kernel
theorem dX6_ifClose_111 : decode cX6_ifClose 111 = .ok (.invokevirtual 182, 3) := by decide +kernel
theorem dX6_ifClose_114 : decode cX6_ifClose 114 = .ok (.ireturn, 1) := by decide +kernel
theorem dX6_ifClose_115 : decode cX6_ifClose 115 = .ok (.aload_n 0, 1) := by decide +kernel
theorem dX6_ifClose_116 : decode cX6_ifClose 116 = .ok (.getfield 16, 3) := by decide +kernel
theorem dX6_ifClose_119 : decode cX6_ifClose 119 = .ok (.getfield 185, 3) := by decide +kernel
theorem dX6_ifClose_122 : decode cX6_ifClose 122 = .ok (.aload_n 0, 1) := by decide +kernel
theorem dX6_ifClose_123 : decode cX6_ifClose 123 = .ok (.getfield 10, 3) := by decide +kernel
theorem dX6_ifClose_126 : decode cX6_ifClose 126 = .ok (.getfield 185, 3) := by decide +kernel
theorem dX6_ifClose_129 : decode cX6_ifClose 129 = .ok (.isub, 1) := by decide +kernel
theorem dX6_ifClose_130 : decode cX6_ifClose 130 = .ok (.ireturn, 1) := by decide +kernel
theorem dX6_ifClose_131 : decode cX6_ifClose 131 = .ok (.aload_n 0, 1) := by decide +kernel
theorem dX6_ifClose_132 : decode cX6_ifClose 132 = .ok (.getfield 16, 3) := by decide +kernel
theorem dX6_ifClose_135 : decode cX6_ifClose 135 = .ok (.getfield 188, 3) := by decide +kernel
theorem dX6_ifClose_138 : decode cX6_ifClose 138 = .ok (.aload_n 0, 1) := by decide +kernel
theorem dX6_ifClose_139 : decode cX6_ifClose 139 = .ok (.getfield 10, 3) := by decide +kernel
theorem dX6_ifClose_142 : decode cX6_ifClose 142 = .ok (.getfield 188, 3) := by decide +kernel
theorem dX6_ifClose_145 : decode cX6_ifClose 145 = .ok (.isub, 1) := by decide +kernel
theorem dX6_ifClose_146 : decode cX6_ifClose 146 = .ok (.ireturn, 1) := by decide +kernel
theorem dX6_beside_0 : decode cX6_beside 0 = .ok (.aload_n 0, 1) := by decide +kernel
theorem dX6_beside_1 : decode cX6_beside 1 = .ok (.getfield 10, 3) := by decide +kernel
theorem dX6_beside_4 : decode cX6_beside 4 = .ok (.iload_n 1, 1) := by decide +kernel
theorem dX6_beside_5 : decode cX6_beside 5 = .ok (.invokevirtual 65, 3) := by decide +kernel
theorem dX6_beside_8 : decode cX6_beside 8 = .ok (.astore_n 2, 1) := by decide +kernel
theorem dX6_beside_9 : decode cX6_beside 9 = .ok (.aload_n 2, 1) := by decide +kernel
theorem dX6_beside_10 : decode cX6_beside 10 = .ok (.ifnonnull 6, 3) := by decide +kernel
theorem dX6_beside_13 : decode cX6_beside 13 = .ok (.ldc 69, 2) := by decide +kernel
theorem dX6_beside_15 : decode cX6_beside 15 = .ok (.ireturn, 1) := by decide +kernel
theorem dX6_beside_16 : decode cX6_beside 16 = .ok (.aload_n 2, 1) := by decide +kernel
theorem dX6_beside_17 : decode cX6_beside 17 = .ok (.getfield 91, 3) := by decide +kernel
theorem dX6_beside_20 : decode cX6_beside 20 = .ok (.ifCond .eq 6, 3) := by decide +kernel
theorem dX6_beside_23 : decode cX6_beside 23 = .ok (.ldc 175, 2) := by decide +kernel
theorem dX6_beside_25 : decode cX6_beside 25 = .ok (.ireturn, 1) := by decide +kernel
theorem dX6_beside_26 : decode cX6_beside 26 = .ok (.aload_n 0, 1) := by decide +kernel
theorem dX6_beside_27 : decode cX6_beside 27 = .ok (.getfield 10, 3) := by decide +kernel
theorem dX6_beside_30 : decode cX6_beside 30 = .ok (.aload_n 2, 1) := by decide +kernel
theorem dX6_beside_31 : decode cX6_beside 31 = .ok (.invokevirtual 189, 3) := by decide +kernel
theorem dX6_beside_34 : decode cX6_beside 34 = .ok (.astore_n 3, 1) := by decide +kernel
theorem dX6_beside_35 : decode cX6_beside 35 = .ok (.aload_n 3, 1) := by decide +kernel
theorem dX6_beside_36 : decode cX6_beside 36 = .ok (.ifnonnull 8, 3) := by decide +kernel
theorem dX6_beside_39 : decode cX6_beside 39 = .ok (.ldc 193, 2) := by decide +kernel
theorem dX6_beside_41 : decode cX6_beside 41 = .ok (.goto 7, 3) := by decide +kernel
theorem dX6_beside_44 : decode cX6_beside 44 = .ok (.aload_n 3, 1) := by decide +kernel
theorem dX6_beside_45 : decode cX6_beside 45 = .ok (.getfield 194, 3) := by decide +kernel
theorem dX6_beside_48 : decode cX6_beside 48 = .ok (.ireturn, 1) := by decide +kernel
theorem dX6_ifJoin_0 : decode cX6_ifJoin 0 = .ok (.aload_n 0, 1) := by decide +kernel
theorem dX6_ifJoin_1 : decode cX6_ifJoin 1 = .ok (.getfield 10, 3) := by decide +kernel
theorem dX6_ifJoin_4 : decode cX6_ifJoin 4 = .ok (.iload_n 1, 1) := by decide +kernel
theorem dX6_ifJoin_5 : decode cX6_ifJoin 5 = .ok (.invokevirtual 65, 3) := by decide +kernel
theorem dX6_ifJoin_8 : decode cX6_ifJoin 8 = .ok (.astore_n 2, 1) := by decide +kernel
theorem dX6_ifJoin_9 : decode cX6_ifJoin 9 = .ok (.aload_n 2, 1) := by decide +kernel
theorem dX6_ifJoin_10 : decode cX6_ifJoin 10 = .ok (.ifnonnull 6, 3) := by decide +kernel
theorem dX6_ifJoin_13 : decode cX6_ifJoin 13 = .ok (.ldc 69, 2) := by decide +kernel
theorem dX6_ifJoin_15 : decode cX6_ifJoin 15 = .ok (.ireturn, 1) := by decide +kernel
theorem dX6_ifJoin_16 : decode cX6_ifJoin 16 = .ok (.aload_n 0, 1) := by decide +kernel
theorem dX6_ifJoin_17 : decode cX6_ifJoin 17 = .ok (.getfield 10, 3) := by decide +kernel
theorem dX6_ifJoin_20 : decode cX6_ifJoin 20 = .ok (.getfield 172, 3) := by decide +kernel
theorem dX6_ifJoin_23 : decode cX6_ifJoin 23 = .ok (.ifCond .eq 6, 3) := by decide +kernel
theorem dX6_ifJoin_26 : decode cX6_ifJoin 26 = .ok (.ldc 175, 2) := by decide +kernel
theorem dX6_ifJoin_28 : decode cX6_ifJoin 28 = .ok (.ireturn, 1) := by decide +kernel
theorem dX6_ifJoin_29 : decode cX6_ifJoin 29 = .ok (.aload_n 0, 1) := by decide +kernel
theorem dX6_ifJoin_30 : decode cX6_ifJoin 30 = .ok (.getfield 10, 3) := by decide +kernel
theorem dX6_ifJoin_33 : decode cX6_ifJoin 33 = .ok (.getfield 197, 3) := by decide +kernel
theorem dX6_ifJoin_36 : decode cX6_ifJoin 36 = .ok (.bipush 30, 2) := by decide +kernel
theorem dX6_ifJoin_38 : decode cX6_ifJoin 38 = .ok (.if_icmp .lt 6, 3) := by decide +kernel
theorem dX6_ifJoin_41 : decode cX6_ifJoin 41 = .ok (.ldc 200, 2) := by decide +kernel
theorem dX6_ifJoin_43 : decode cX6_ifJoin 43 = .ok (.ireturn, 1) := by decide +kernel
theorem dX6_ifJoin_44 : decode cX6_ifJoin 44 = .ok (.aload_n 2, 1) := by decide +kernel
theorem dX6_ifJoin_45 : decode cX6_ifJoin 45 = .ok (.invokevirtual 201, 3) := by decide +kernel
theorem dX6_ifJoin_48 : decode cX6_ifJoin 48 = .ok (.ifCond .eq 7, 3) := by decide +kernel
theorem dX6_ifJoin_51 : decode cX6_ifJoin 51 = .ok (.iconst 0, 1) := by decide +kernel
theorem dX6_ifJoin_52 : decode cX6_ifJoin 52 = .ok (.goto 4, 3) := by decide +kernel
theorem dX6_ifJoin_55 : decode cX6_ifJoin 55 = .ok (.iconst 4, 1) := by decide +kernel
theorem dX6_ifJoin_56 : decode cX6_ifJoin 56 = .ok (.ireturn, 1) := by decide +kernel
theorem dX6_mean_0 : decode cX6_mean 0 = .ok (.aload_n 0, 1) := by decide +kernel
theorem dX6_mean_1 : decode cX6_mean 1 = .ok (.getfield 10, 3) := by decide +kernel
theorem dX6_mean_4 : decode cX6_mean 4 = .ok (.invokevirtual 205, 3) := by decide +kernel
theorem dX6_mean_7 : decode cX6_mean 7 = .ok (.istore_n 1, 1) := by decide +kernel
theorem dX6_mean_8 : decode cX6_mean 8 = .ok (.iload_n 1, 1) := by decide +kernel
theorem dX6_mean_9 : decode cX6_mean 9 = .ok (.ifCond .gt 6, 3) := by decide +kernel
theorem dX6_mean_12 : decode cX6_mean 12 = .ok (.ldc 193, 2) := by decide +kernel
theorem dX6_mean_14 : decode cX6_mean 14 = .ok (.ireturn, 1) := by decide +kernel
theorem dX6_mean_15 : decode cX6_mean 15 = .ok (.aload_n 0, 1) := by decide +kernel
theorem dX6_mean_16 : decode cX6_mean 16 = .ok (.getfield 10, 3) := by decide +kernel
theorem dX6_mean_19 : decode cX6_mean 19 = .ok (.invokevirtual 208, 3) := by decide +kernel
theorem dX6_mean_22 : decode cX6_mean 22 = .ok (.i2f, 1) := by decide +kernel
theorem dX6_mean_23 : decode cX6_mean 23 = .ok (.iload_n 1, 1) := by decide +kernel
theorem dX6_mean_24 : decode cX6_mean 24 = .ok (.i2f, 1) := by decide +kernel
theorem dX6_mean_25 : decode cX6_mean 25 = .ok (.fdiv, 1) := by decide +kernel
theorem dX6_mean_26 : decode cX6_mean 26 = .ok (.invokestatic 211, 3) := by decide +kernel
theorem dX6_mean_29 : decode cX6_mean 29 = .ok (.ireturn, 1) := by decide +kernel
theorem dX6_count_0 : decode cX6_count 0 = .ok (.iload_n 1, 1) := by decide +kernel
theorem dX6_count_1 : decode cX6_count 1 = .ok (.tableswitch 240 0 17 #[87, 95, 103, 111, 119, 127, 136, 144, 152, 168, 176, 184, 192, 200, 208, 216, 224, 232], 87) := by decide +kernel
theorem dX6_count_88 : decode cX6_count 88 = .ok (.aload_n 0, 1) := by decide +kernel
theorem dX6_count_89 : decode cX6_count 89 = .ok (.getfield 10, 3) := by decide +kernel
theorem dX6_count_92 : decode cX6_count 92 = .ok (.getfield 215, 3) := by decide +kernel
theorem dX6_count_95 : decode cX6_count 95 = .ok (.ireturn, 1) := by decide +kernel
theorem dX6_count_96 : decode cX6_count 96 = .ok (.aload_n 0, 1) := by decide +kernel
theorem dX6_count_97 : decode cX6_count 97 = .ok (.getfield 10, 3) := by decide +kernel
theorem dX6_count_100 : decode cX6_count 100 = .ok (.getfield 218, 3) := by decide +kernel
theorem dX6_count_103 : decode cX6_count 103 = .ok (.ireturn, 1) := by decide +kernel
theorem dX6_count_104 : decode cX6_count 104 = .ok (.aload_n 0, 1) := by decide +kernel
theorem dX6_count_105 : decode cX6_count 105 = .ok (.getfield 10, 3) := by decide +kernel
theorem dX6_count_108 : decode cX6_count 108 = .ok (.getfield 197, 3) := by decide +kernel
theorem dX6_count_111 : decode cX6_count 111 = .ok (.ireturn, 1) := by decide +kernel
theorem dX6_count_112 : decode cX6_count 112 = .ok (.aload_n 0, 1) := by decide +kernel
theorem dX6_count_113 : decode cX6_count 113 = .ok (.getfield 10, 3) := by decide +kernel
theorem dX6_count_116 : decode cX6_count 116 = .ok (.invokevirtual 205, 3) := by decide +kernel
theorem dX6_count_119 : decode cX6_count 119 = .ok (.ireturn, 1) := by decide +kernel
theorem dX6_count_120 : decode cX6_count 120 = .ok (.aload_n 0, 1) := by decide +kernel
theorem dX6_count_121 : decode cX6_count 121 = .ok (.getfield 10, 3) := by decide +kernel
theorem dX6_count_124 : decode cX6_count 124 = .ok (.invokevirtual 182, 3) := by decide +kernel
theorem dX6_count_127 : decode cX6_count 127 = .ok (.ireturn, 1) := by decide +kernel
theorem dX6_count_128 : decode cX6_count 128 = .ok (.aload_n 0, 1) := by decide +kernel
theorem dX6_count_129 : decode cX6_count 129 = .ok (.getfield 10, 3) := by decide +kernel
theorem dX6_count_132 : decode cX6_count 132 = .ok (.iconst 0, 1) := by decide +kernel
theorem dX6_count_133 : decode cX6_count 133 = .ok (.invokevirtual 179, 3) := by decide +kernel
theorem dX6_count_136 : decode cX6_count 136 = .ok (.ireturn, 1) := by decide +kernel
theorem dX6_count_137 : decode cX6_count 137 = .ok (.aload_n 0, 1) := by decide +kernel
theorem dX6_count_138 : decode cX6_count 138 = .ok (.getfield 10, 3) := by decide +kernel
theorem dX6_count_141 : decode cX6_count 141 = .ok (.invokevirtual 221, 3) := by decide +kernel
theorem dX6_count_144 : decode cX6_count 144 = .ok (.ireturn, 1) := by decide +kernel
theorem dX6_count_145 : decode cX6_count 145 = .ok (.aload_n 0, 1) := by decide +kernel
theorem dX6_count_146 : decode cX6_count 146 = .ok (.getfield 10, 3) := by decide +kernel
theorem dX6_count_149 : decode cX6_count 149 = .ok (.getfield 224, 3) := by decide +kernel
theorem dX6_count_152 : decode cX6_count 152 = .ok (.ireturn, 1) := by decide +kernel
theorem dX6_count_153 : decode cX6_count 153 = .ok (.aload_n 0, 1) := by decide +kernel
theorem dX6_count_154 : decode cX6_count 154 = .ok (.getfield 10, 3) := by decide +kernel
theorem dX6_count_157 : decode cX6_count 157 = .ok (.getfield 172, 3) := by decide +kernel
theorem dX6_count_160 : decode cX6_count 160 = .ok (.ifCond .eq 7, 3) := by decide +kernel
theorem dX6_count_163 : decode cX6_count 163 = .ok (.iconst 1, 1) := by decide +kernel
theorem dX6_count_164 : decode cX6_count 164 = .ok (.goto 4, 3) := by decide +kernel
theorem dX6_count_167 : decode cX6_count 167 = .ok (.iconst 0, 1) := by decide +kernel
theorem dX6_count_168 : decode cX6_count 168 = .ok (.ireturn, 1) := by decide +kernel
theorem dX6_count_169 : decode cX6_count 169 = .ok (.aload_n 0, 1) := by decide +kernel
theorem dX6_count_170 : decode cX6_count 170 = .ok (.getfield 10, 3) := by decide +kernel
theorem dX6_count_173 : decode cX6_count 173 = .ok (.getfield 188, 3) := by decide +kernel
theorem dX6_count_176 : decode cX6_count 176 = .ok (.ireturn, 1) := by decide +kernel
theorem dX6_count_177 : decode cX6_count 177 = .ok (.aload_n 0, 1) := by decide +kernel
theorem dX6_count_178 : decode cX6_count 178 = .ok (.getfield 10, 3) := by decide +kernel
theorem dX6_count_181 : decode cX6_count 181 = .ok (.getfield 185, 3) := by decide +kernel
theorem dX6_count_184 : decode cX6_count 184 = .ok (.ireturn, 1) := by decide +kernel
theorem dX6_count_185 : decode cX6_count 185 = .ok (.aload_n 0, 1) := by decide +kernel
theorem dX6_count_186 : decode cX6_count 186 = .ok (.getfield 10, 3) := by decide +kernel
theorem dX6_count_189 : decode cX6_count 189 = .ok (.invokevirtual 225, 3) := by decide +kernel
theorem dX6_count_192 : decode cX6_count 192 = .ok (.ireturn, 1) := by decide +kernel
theorem dX6_count_193 : decode cX6_count 193 = .ok (.aload_n 0, 1) := by decide +kernel
theorem dX6_count_194 : decode cX6_count 194 = .ok (.getfield 10, 3) := by decide +kernel
theorem dX6_count_197 : decode cX6_count 197 = .ok (.getfield 228, 3) := by decide +kernel
theorem dX6_count_200 : decode cX6_count 200 = .ok (.ireturn, 1) := by decide +kernel
theorem dX6_count_201 : decode cX6_count 201 = .ok (.aload_n 0, 1) := by decide +kernel
theorem dX6_count_202 : decode cX6_count 202 = .ok (.getfield 10, 3) := by decide +kernel
theorem dX6_count_205 : decode cX6_count 205 = .ok (.getfield 231, 3) := by decide +kernel
theorem dX6_count_208 : decode cX6_count 208 = .ok (.ireturn, 1) := by decide +kernel
theorem dX6_count_209 : decode cX6_count 209 = .ok (.aload_n 0, 1) := by decide +kernel
theorem dX6_count_210 : decode cX6_count 210 = .ok (.getfield 10, 3) := by decide +kernel
theorem dX6_count_213 : decode cX6_count 213 = .ok (.getfield 234, 3) := by decide +kernel
theorem dX6_count_216 : decode cX6_count 216 = .ok (.ireturn, 1) := by decide +kernel
theorem dX6_count_217 : decode cX6_count 217 = .ok (.aload_n 0, 1) := by decide +kernel
theorem dX6_count_218 : decode cX6_count 218 = .ok (.getfield 10, 3) := by decide +kernel
theorem dX6_count_221 : decode cX6_count 221 = .ok (.getfield 237, 3) := by decide +kernel
theorem dX6_count_224 : decode cX6_count 224 = .ok (.ireturn, 1) := by decide +kernel
theorem dX6_count_225 : decode cX6_count 225 = .ok (.aload_n 0, 1) := by decide +kernel
theorem dX6_count_226 : decode cX6_count 226 = .ok (.getfield 22, 3) := by decide +kernel
theorem dX6_count_229 : decode cX6_count 229 = .ok (.getfield 240, 3) := by decide +kernel
theorem dX6_count_232 : decode cX6_count 232 = .ok (.ireturn, 1) := by decide +kernel
theorem dX6_count_233 : decode cX6_count 233 = .ok (.aload_n 0, 1) := by decide +kernel
theorem dX6_count_234 : decode cX6_count 234 = .ok (.getfield 29, 3) := by decide +kernel
theorem dX6_count_237 : decode cX6_count 237 = .ok (.getfield 241, 3) := by decide +kernel
theorem dX6_count_240 : decode cX6_count 240 = .ok (.ireturn, 1) := by decide +kernel
theorem dX6_count_241 : decode cX6_count 241 = .ok (.ldc 69, 2) := by decide +kernel
theorem dX6_count_243 : decode cX6_count 243 = .ok (.ireturn, 1) := by decide +kernel
theorem dX6_undo_0 : decode cX6_undo 0 = .ok (.aload_n 0, 1) := by decide +kernel
theorem dX6_undo_1 : decode cX6_undo 1 = .ok (.getfield 22, 3) := by decide +kernel
theorem dX6_undo_4 : decode cX6_undo 4 = .ok (.aload_n 0, 1) := by decide +kernel
theorem dX6_undo_5 : decode cX6_undo 5 = .ok (.getfield 10, 3) := by decide +kernel
theorem dX6_undo_8 : decode cX6_undo 8 = .ok (.invokevirtual 244, 3) := by decide +kernel
theorem dX6_undo_11 : decode cX6_undo 11 = .ok (.ireturn, 1) := by decide +kernel
theorem dX6_isOutside_0 : decode cX6_isOutside 0 = .ok (.iload_n 0, 1) := by decide +kernel
theorem dX6_isOutside_1 : decode cX6_isOutside 1 = .ok (.iload_n 1, 1) := by decide +kernel
theorem dX6_isOutside_2 : decode cX6_isOutside 2 = .ok (.if_icmp .lt 8, 3) := by decide +kernel
theorem dX6_isOutside_5 : decode cX6_isOutside 5 = .ok (.iload_n 0, 1) := by decide +kernel
theorem dX6_isOutside_6 : decode cX6_isOutside 6 = .ok (.iload_n 2, 1) := by decide +kernel
theorem dX6_isOutside_7 : decode cX6_isOutside 7 = .ok (.if_icmp .le 7, 3) := by decide +kernel
theorem dX6_isOutside_10 : decode cX6_isOutside 10 = .ok (.iconst 1, 1) := by decide +kernel
theorem dX6_isOutside_11 : decode cX6_isOutside 11 = .ok (.goto 4, 3) := by decide +kernel
theorem dX6_isOutside_14 : decode cX6_isOutside 14 = .ok (.iconst 0, 1) := by decide +kernel
theorem dX6_isOutside_15 : decode cX6_isOutside 15 = .ok (.ireturn, 1) := by decide +kernel
theorem dX6_foundOrNot_0 : decode cX6_foundOrNot 0 = .ok (.iload_n 0, 1) := by decide +kernel
theorem dX6_foundOrNot_1 : decode cX6_foundOrNot 1 = .ok (.iconst (-1), 1) := by decide +kernel
theorem dX6_foundOrNot_2 : decode cX6_foundOrNot 2 = .ok (.if_icmp .ne 8, 3) := by decide +kernel
theorem dX6_foundOrNot_5 : decode cX6_foundOrNot 5 = .ok (.ldc 193, 2) := by decide +kernel
theorem dX6_foundOrNot_7 : decode cX6_foundOrNot 7 = .ok (.goto 4, 3) := by decide +kernel
theorem dX6_foundOrNot_10 : decode cX6_foundOrNot 10 = .ok (.iload_n 0, 1) := by decide +kernel
theorem dX6_foundOrNot_11 : decode cX6_foundOrNot 11 = .ok (.ireturn, 1) := by decide +kernel
theorem dX6_bitsOf_0 : decode cX6_bitsOf 0 = .ok (.fload_n 0, 1) := by decide +kernel
theorem dX6_bitsOf_1 : decode cX6_bitsOf 1 = .ok (.fconst 0, 1) := by decide +kernel
theorem dX6_bitsOf_2 : decode cX6_bitsOf 2 = .ok (.fcmp .g, 1) := by decide +kernel
theorem dX6_bitsOf_3 : decode cX6_bitsOf 3 = .ok (.ifCond .gt 5, 3) := by decide +kernel
theorem dX6_bitsOf_6 : decode cX6_bitsOf 6 = .ok (.iconst 0, 1) := by decide +kernel
theorem dX6_bitsOf_7 : decode cX6_bitsOf 7 = .ok (.ireturn, 1) := by decide +kernel
theorem dX6_bitsOf_8 : decode cX6_bitsOf 8 = .ok (.fload_n 0, 1) := by decide +kernel
theorem dX6_bitsOf_9 : decode cX6_bitsOf 9 = .ok (.fstore_n 1, 1) := by decide +kernel
theorem dX6_bitsOf_10 : decode cX6_bitsOf 10 = .ok (.bipush 127, 2) := by decide +kernel
theorem dX6_bitsOf_12 : decode cX6_bitsOf 12 = .ok (.istore_n 2, 1) := by decide +kernel
theorem dX6_bitsOf_13 : decode cX6_bitsOf 13 = .ok (.iconst 0, 1) := by decide +kernel
theorem dX6_bitsOf_14 : decode cX6_bitsOf 14 = .ok (.istore_n 3, 1) := by decide +kernel
theorem dX6_bitsOf_15 : decode cX6_bitsOf 15 = .ok (.iload_n 3, 1) := by decide +kernel
theorem dX6_bitsOf_16 : decode cX6_bitsOf 16 = .ok (.bipush 127, 2) := by decide +kernel
theorem dX6_bitsOf_18 : decode cX6_bitsOf 18 = .ok (.if_icmp .ge 22, 3) := by decide +kernel
theorem dX6_bitsOf_21 : decode cX6_bitsOf 21 = .ok (.fload_n 1, 1) := by decide +kernel
theorem dX6_bitsOf_22 : decode cX6_bitsOf 22 = .ok (.fconst 2, 1) := by decide +kernel
theorem dX6_bitsOf_23 : decode cX6_bitsOf 23 = .ok (.fcmp .l, 1) := by decide +kernel
theorem dX6_bitsOf_24 : decode cX6_bitsOf 24 = .ok (.ifCond .lt 16, 3) := by decide +kernel
theorem dX6_bitsOf_27 : decode cX6_bitsOf 27 = .ok (.fload_n 1, 1) := by decide +kernel
theorem dX6_bitsOf_28 : decode cX6_bitsOf 28 = .ok (.fconst 2, 1) := by decide +kernel
theorem dX6_bitsOf_29 : decode cX6_bitsOf 29 = .ok (.fdiv, 1) := by decide +kernel
theorem dX6_bitsOf_30 : decode cX6_bitsOf 30 = .ok (.fstore_n 1, 1) := by decide +kernel
theorem dX6_bitsOf_31 : decode cX6_bitsOf 31 = .ok (.iinc 2 1, 3) := by decide +kernel
theorem dX6_bitsOf_34 : decode cX6_bitsOf 34 = .ok (.iinc 3 1, 3) := by decide +kernel
theorem dX6_bitsOf_37 : decode cX6_bitsOf 37 = .ok (.goto (-22), 3) := by decide +kernel
theorem dX6_bitsOf_40 : decode cX6_bitsOf 40 = .ok (.iconst 0, 1) := by decide +kernel
theorem dX6_bitsOf_41 : decode cX6_bitsOf 41 = .ok (.istore_n 3, 1) := by decide +kernel
theorem dX6_bitsOf_42 : decode cX6_bitsOf 42 = .ok (.iload_n 3, 1) := by decide +kernel
theorem dX6_bitsOf_43 : decode cX6_bitsOf 43 = .ok (.bipush 126, 2) := by decide +kernel
theorem dX6_bitsOf_45 : decode cX6_bitsOf 45 = .ok (.if_icmp .ge 22, 3) := by decide +kernel
theorem dX6_bitsOf_48 : decode cX6_bitsOf 48 = .ok (.fload_n 1, 1) := by decide +kernel
theorem dX6_bitsOf_49 : decode cX6_bitsOf 49 = .ok (.fconst 1, 1) := by decide +kernel
theorem dX6_bitsOf_50 : decode cX6_bitsOf 50 = .ok (.fcmp .g, 1) := by decide +kernel
theorem dX6_bitsOf_51 : decode cX6_bitsOf 51 = .ok (.ifCond .ge 16, 3) := by decide +kernel
theorem dX6_bitsOf_54 : decode cX6_bitsOf 54 = .ok (.fload_n 1, 1) := by decide +kernel
theorem dX6_bitsOf_55 : decode cX6_bitsOf 55 = .ok (.fconst 2, 1) := by decide +kernel
theorem dX6_bitsOf_56 : decode cX6_bitsOf 56 = .ok (.fmul, 1) := by decide +kernel
theorem dX6_bitsOf_57 : decode cX6_bitsOf 57 = .ok (.fstore_n 1, 1) := by decide +kernel
theorem dX6_bitsOf_58 : decode cX6_bitsOf 58 = .ok (.iinc 2 (-1), 3) := by decide +kernel
theorem dX6_bitsOf_61 : decode cX6_bitsOf 61 = .ok (.iinc 3 1, 3) := by decide +kernel
theorem dX6_bitsOf_64 : decode cX6_bitsOf 64 = .ok (.goto (-22), 3) := by decide +kernel
theorem dX6_bitsOf_67 : decode cX6_bitsOf 67 = .ok (.iload_n 2, 1) := by decide +kernel
theorem dX6_bitsOf_68 : decode cX6_bitsOf 68 = .ok (.bipush 23, 2) := by decide +kernel
theorem dX6_bitsOf_70 : decode cX6_bitsOf 70 = .ok (.ishl, 1) := by decide +kernel
theorem dX6_bitsOf_71 : decode cX6_bitsOf 71 = .ok (.fload_n 1, 1) := by decide +kernel
theorem dX6_bitsOf_72 : decode cX6_bitsOf 72 = .ok (.fconst 1, 1) := by decide +kernel
theorem dX6_bitsOf_73 : decode cX6_bitsOf 73 = .ok (.fsub, 1) := by decide +kernel
theorem dX6_bitsOf_74 : decode cX6_bitsOf 74 = .ok (.ldc_w 267, 3) := by decide +kernel
theorem dX6_bitsOf_77 : decode cX6_bitsOf 77 = .ok (.fmul, 1) := by decide +kernel
theorem dX6_bitsOf_78 : decode cX6_bitsOf 78 = .ok (.f2i, 1) := by decide +kernel
theorem dX6_bitsOf_79 : decode cX6_bitsOf 79 = .ok (.ior, 1) := by decide +kernel
theorem dX6_bitsOf_80 : decode cX6_bitsOf 80 = .ok (.ireturn, 1) := by decide +kernel
theorem dJ6_bitCount_0f7a4_0 : decode cJ6_bitCount_0f7a4 0 = .ok (.iload_n 0, 1) := by decide +kernel
theorem dJ6_bitCount_0f7a4_1 : decode cJ6_bitCount_0f7a4 1 = .ok (.iload_n 0, 1) := by decide +kernel
theorem dJ6_bitCount_0f7a4_2 : decode cJ6_bitCount_0f7a4 2 = .ok (.iconst 1, 1) := by decide +kernel
theorem dJ6_bitCount_0f7a4_3 : decode cJ6_bitCount_0f7a4 3 = .ok (.iushr, 1) := by decide +kernel
theorem dJ6_bitCount_0f7a4_4 : decode cJ6_bitCount_0f7a4 4 = .ok (.ldc_w 265, 3) := by decide +kernel
theorem dJ6_bitCount_0f7a4_7 : decode cJ6_bitCount_0f7a4 7 = .ok (.iand, 1) := by decide +kernel
theorem dJ6_bitCount_0f7a4_8 : decode cJ6_bitCount_0f7a4 8 = .ok (.isub, 1) := by decide +kernel
theorem dJ6_bitCount_0f7a4_9 : decode cJ6_bitCount_0f7a4 9 = .ok (.istore_n 0, 1) := by decide +kernel
theorem dJ6_bitCount_0f7a4_10 : decode cJ6_bitCount_0f7a4 10 = .ok (.iload_n 0, 1) := by decide +kernel
theorem dJ6_bitCount_0f7a4_11 : decode cJ6_bitCount_0f7a4 11 = .ok (.ldc_w 266, 3) := by decide +kernel
theorem dJ6_bitCount_0f7a4_14 : decode cJ6_bitCount_0f7a4 14 = .ok (.iand, 1) := by decide +kernel
theorem dJ6_bitCount_0f7a4_15 : decode cJ6_bitCount_0f7a4 15 = .ok (.iload_n 0, 1) := by decide +kernel
theorem dJ6_bitCount_0f7a4_16 : decode cJ6_bitCount_0f7a4 16 = .ok (.iconst 2, 1) := by decide +kernel
theorem dJ6_bitCount_0f7a4_17 : decode cJ6_bitCount_0f7a4 17 = .ok (.iushr, 1) := by decide +kernel
theorem dJ6_bitCount_0f7a4_18 : decode cJ6_bitCount_0f7a4 18 = .ok (.ldc_w 266, 3) := by decide +kernel
theorem dJ6_bitCount_0f7a4_21 : decode cJ6_bitCount_0f7a4 21 = .ok (.iand, 1) := by decide +kernel
theorem dJ6_bitCount_0f7a4_22 : decode cJ6_bitCount_0f7a4 22 = .ok (.iadd, 1) := by decide +kernel
theorem dJ6_bitCount_0f7a4_23 : decode cJ6_bitCount_0f7a4 23 = .ok (.istore_n 0, 1) := by decide +kernel
theorem dJ6_bitCount_0f7a4_24 : decode cJ6_bitCount_0f7a4 24 = .ok (.iload_n 0, 1) := by decide +kernel
theorem dJ6_bitCount_0f7a4_25 : decode cJ6_bitCount_0f7a4 25 = .ok (.iload_n 0, 1) := by decide +kernel
theorem dJ6_bitCount_0f7a4_26 : decode cJ6_bitCount_0f7a4 26 = .ok (.iconst 4, 1) := by decide +kernel
theorem dJ6_bitCount_0f7a4_27 : decode cJ6_bitCount_0f7a4 27 = .ok (.iushr, 1) := by decide +kernel
theorem dJ6_bitCount_0f7a4_28 : decode cJ6_bitCount_0f7a4 28 = .ok (.iadd, 1) := by decide +kernel
theorem dJ6_bitCount_0f7a4_29 : decode cJ6_bitCount_0f7a4 29 = .ok (.ldc_w 267, 3) := by decide +kernel
theorem dJ6_bitCount_0f7a4_32 : decode cJ6_bitCount_0f7a4 32 = .ok (.iand, 1) := by decide +kernel
theorem dJ6_bitCount_0f7a4_33 : decode cJ6_bitCount_0f7a4 33 = .ok (.istore_n 0, 1) := by decide +kernel
theorem dJ6_bitCount_0f7a4_34 : decode cJ6_bitCount_0f7a4 34 = .ok (.iload_n 0, 1) := by decide +kernel
theorem dJ6_bitCount_0f7a4_35 : decode cJ6_bitCount_0f7a4 35 = .ok (.iload_n 0, 1) := by decide +kernel
theorem dJ6_bitCount_0f7a4_36 : decode cJ6_bitCount_0f7a4 36 = .ok (.bipush 8, 2) := by decide +kernel
theorem dJ6_bitCount_0f7a4_38 : decode cJ6_bitCount_0f7a4 38 = .ok (.iushr, 1) := by decide +kernel
theorem dJ6_bitCount_0f7a4_39 : decode cJ6_bitCount_0f7a4 39 = .ok (.iadd, 1) := by decide +kernel
theorem dJ6_bitCount_0f7a4_40 : decode cJ6_bitCount_0f7a4 40 = .ok (.istore_n 0, 1) := by decide +kernel
theorem dJ6_bitCount_0f7a4_41 : decode cJ6_bitCount_0f7a4 41 = .ok (.iload_n 0, 1) := by decide +kernel
theorem dJ6_bitCount_0f7a4_42 : decode cJ6_bitCount_0f7a4 42 = .ok (.iload_n 0, 1) := by decide +kernel
theorem dJ6_bitCount_0f7a4_43 : decode cJ6_bitCount_0f7a4 43 = .ok (.bipush 16, 2) := by decide +kernel
theorem dJ6_bitCount_0f7a4_45 : decode cJ6_bitCount_0f7a4 45 = .ok (.iushr, 1) := by decide +kernel
theorem dJ6_bitCount_0f7a4_46 : decode cJ6_bitCount_0f7a4 46 = .ok (.iadd, 1) := by decide +kernel
theorem dJ6_bitCount_0f7a4_47 : decode cJ6_bitCount_0f7a4 47 = .ok (.istore_n 0, 1) := by decide +kernel
theorem dJ6_bitCount_0f7a4_48 : decode cJ6_bitCount_0f7a4 48 = .ok (.iload_n 0, 1) := by decide +kernel
theorem dJ6_bitCount_0f7a4_49 : decode cJ6_bitCount_0f7a4 49 = .ok (.bipush 63, 2) := by decide +kernel
theorem dJ6_bitCount_0f7a4_51 : decode cJ6_bitCount_0f7a4 51 = .ok (.iand, 1) := by decide +kernel
theorem dJ6_bitCount_0f7a4_52 : decode cJ6_bitCount_0f7a4 52 = .ok (.ireturn, 1) := by decide +kernel
theorem dJ9_max_7cf53_0 : decode cJ9_max_7cf53 0 = .ok (.iload_n 0, 1) := by decide +kernel
theorem dJ9_max_7cf53_1 : decode cJ9_max_7cf53 1 = .ok (.iload_n 1, 1) := by decide +kernel
theorem dJ9_max_7cf53_2 : decode cJ9_max_7cf53 2 = .ok (.if_icmp .lt 7, 3) := by decide +kernel
theorem dJ9_max_7cf53_5 : decode cJ9_max_7cf53 5 = .ok (.iload_n 0, 1) := by decide +kernel
theorem dJ9_max_7cf53_6 : decode cJ9_max_7cf53 6 = .ok (.goto 4, 3) := by decide +kernel
theorem dJ9_max_7cf53_9 : decode cJ9_max_7cf53 9 = .ok (.iload_n 1, 1) := by decide +kernel
theorem dJ9_max_7cf53_10 : decode cJ9_max_7cf53 10 = .ok (.ireturn, 1) := by decide +kernel
theorem dJ9_min_7cf53_0 : decode cJ9_min_7cf53 0 = .ok (.iload_n 0, 1) := by decide +kernel
theorem dJ9_min_7cf53_1 : decode cJ9_min_7cf53 1 = .ok (.iload_n 1, 1) := by decide +kernel
theorem dJ9_min_7cf53_2 : decode cJ9_min_7cf53 2 = .ok (.if_icmp .gt 7, 3) := by decide +kernel
theorem dJ9_min_7cf53_5 : decode cJ9_min_7cf53 5 = .ok (.iload_n 0, 1) := by decide +kernel
theorem dJ9_min_7cf53_6 : decode cJ9_min_7cf53 6 = .ok (.goto 4, 3) := by decide +kernel
theorem dJ9_min_7cf53_9 : decode cJ9_min_7cf53 9 = .ok (.iload_n 1, 1) := by decide +kernel
theorem dJ9_min_7cf53_10 : decode cJ9_min_7cf53 10 = .ok (.ireturn, 1) := by decide +kernel
