theorem dX7_init_0 : decode cX7_init 0 = .ok (.aload_n 0, 1) := by decide +kernel
theorem dX7_init_1 : decode cX7_init 1 = .ok (.invokespecial 1, 3) := by decide +kernel
theorem dX7_init_4 : decode cX7_init 4 = .ok (.aload_n 0, 1) := by decide +kernel
theorem dX7_init_5 : decode cX7_init 5 = .ok (.sipush 554, 3) := by decide +kernel
theorem dX7_init_8 : decode cX7_init 8 = .ok (.newarray .int, 2) := by decide +kernel
theorem dX7_init_10 : decode cX7_init 10 = .ok (.putfield 7, 3) := by decide +kernel
theorem dX7_init_13 : decode cX7_init 13 = .ok (.aload_n 0, 1) := by decide +kernel
theorem dX7_init_14 : decode cX7_init 14 = .ok (.sipush 554, 3) := by decide +kernel
theorem dX7_init_17 : decode cX7_init 17 = .ok (.newarray .int, 2) := by decide +kernel
theorem dX7_init_19 : decode cX7_init 19 = .ok (.putfield 13, 3) := by decide +kernel
theorem dX7_init_22 : decode cX7_init 22 = .ok (.aload_n 0, 1) := by decide +kernel
theorem dX7_init_23 : decode cX7_init 23 = .ok (.sipush 2216, 3) := by decide +kernel
theorem dX7_init_26 : decode cX7_init 26 = .ok (.newarray .int, 2) := by decide +kernel
theorem dX7_init_28 : decode cX7_init 28 = .ok (.putfield 16, 3) := by decide +kernel
theorem dX7_init_31 : decode cX7_init 31 = .ok (.aload_n 0, 1) := by decide +kernel
theorem dX7_init_32 : decode cX7_init 32 = .ok (.bipush 60, 2) := by decide +kernel
theorem dX7_init_34 : decode cX7_init 34 = .ok (.newarray .int, 2) := by decide +kernel
theorem dX7_init_36 : decode cX7_init 36 = .ok (.putfield 19, 3) := by decide +kernel
theorem dX7_init_39 : decode cX7_init 39 = .ok (.aload_n 0, 1) := by decide +kernel
theorem dX7_init_40 : decode cX7_init 40 = .ok (.iconst 4, 1) := by decide +kernel
theorem dX7_init_41 : decode cX7_init 41 = .ok (.newarray .int, 2) := by decide +kernel
theorem dX7_init_43 : decode cX7_init 43 = .ok (.putfield 22, 3) := by decide +kernel
theorem dX7_init_46 : decode cX7_init 46 = .ok (.return_, 1) := by decide +kernel
theorem dX7_in_0 : decode cX7_in 0 = .ok (.iload_n 0, 1) := by decide +kernel
theorem dX7_in_1 : decode cX7_in 1 = .ok (.iload_n 1, 1) := by decide +kernel
theorem dX7_in_2 : decode cX7_in 2 = .ok (.if_icmp .lt 12, 3) := by decide +kernel
theorem dX7_in_5 : decode cX7_in 5 = .ok (.iload_n 0, 1) := by decide +kernel
theorem dX7_in_6 : decode cX7_in 6 = .ok (.iload_n 2, 1) := by decide +kernel
theorem dX7_in_7 : decode cX7_in 7 = .ok (.if_icmp .gt 7, 3) := by decide +kernel
theorem dX7_in_10 : decode cX7_in 10 = .ok (.iconst 1, 1) := by decide +kernel
theorem dX7_in_11 : decode cX7_in 11 = .ok (.goto 4, 3) := by decide +kernel
theorem dX7_in_14 : decode cX7_in 14 = .ok (.iconst 0, 1) := by decide +kernel
theorem dX7_in_15 : decode cX7_in 15 = .ok (.ireturn, 1) := by decide +kernel
theorem dX7_putAside_0 : decode cX7_putAside 0 = .ok (.iconst 0, 1) := by decide +kernel
theorem dX7_putAside_1 : decode cX7_putAside 1 = .ok (.istore_n 1, 1) := by decide +kernel
theorem dX7_putAside_2 : decode cX7_putAside 2 = .ok (.iload_n 1, 1) := by decide +kernel
theorem dX7_putAside_3 : decode cX7_putAside 3 = .ok (.sipush 554, 3) := by decide +kernel
theorem dX7_putAside_6 : decode cX7_putAside 6 = .ok (.if_icmp .ge 21, 3) := by decide +kernel
theorem dX7_putAside_9 : decode cX7_putAside 9 = .ok (.aload_n 0, 1) := by decide +kernel
theorem dX7_putAside_10 : decode cX7_putAside 10 = .ok (.getfield 13, 3) := by decide +kernel
theorem dX7_putAside_13 : decode cX7_putAside 13 = .ok (.iload_n 1, 1) := by decide +kernel
theorem dX7_putAside_14 : decode cX7_putAside 14 = .ok (.aload_n 0, 1) := by decide +kernel
theorem dX7_putAside_15 : decode cX7_putAside 15 = .ok (.getfield 7, 3) := by decide +kernel
theorem dX7_putAside_18 : decode cX7_putAside 18 = .ok (.iload_n 1, 1) := by decide +kernel
theorem dX7_putAside_19 : decode cX7_putAside 19 = .ok (.iaload, 1) := by decide +kernel
theorem dX7_putAside_20 : decode cX7_putAside 20 = .ok (.iastore, 1) := by decide +kernel
theorem dX7_putAside_21 : decode cX7_putAside 21 = .ok (.iinc 1 1, 3) := by decide +kernel
theorem dX7_putAside_24 : decode cX7_putAside 24 = .ok (.goto (-22), 3) := by decide +kernel
theorem dX7_putAside_27 : decode cX7_putAside 27 = .ok (.return_, 1) := by decide +kernel
theorem dX7_putBack_0 : decode cX7_putBack 0 = .ok (.iconst 0, 1) := by decide +kernel
theorem dX7_putBack_1 : decode cX7_putBack 1 = .ok (.istore_n 1, 1) := by decide +kernel
theorem dX7_putBack_2 : decode cX7_putBack 2 = .ok (.iload_n 1, 1) := by decide +kernel
theorem dX7_putBack_3 : decode cX7_putBack 3 = .ok (.sipush 554, 3) := by decide +kernel
theorem dX7_putBack_6 : decode cX7_putBack 6 = .ok (.if_icmp .ge 21, 3) := by decide +kernel
theorem dX7_putBack_9 : decode cX7_putBack 9 = .ok (.aload_n 0, 1) := by decide +kernel
theorem dX7_putBack_10 : decode cX7_putBack 10 = .ok (.getfield 7, 3) := by decide +kernel
theorem dX7_putBack_13 : decode cX7_putBack 13 = .ok (.iload_n 1, 1) := by decide +kernel
theorem dX7_putBack_14 : decode cX7_putBack 14 = .ok (.aload_n 0, 1) := by decide +kernel
theorem dX7_putBack_15 : decode cX7_putBack 15 = .ok (.getfield 13, 3) := by decide +kernel
theorem dX7_putBack_18 : decode cX7_putBack 18 = .ok (.iload_n 1, 1) := by decide +kernel
theorem dX7_putBack_19 : decode cX7_putBack 19 = .ok (.iaload, 1) := by decide +kernel
theorem dX7_putBack_20 : decode cX7_putBack 20 = .ok (.iastore, 1) := by decide +kernel
theorem dX7_putBack_21 : decode cX7_putBack 21 = .ok (.iinc 1 1, 3) := by decide +kernel
theorem dX7_putBack_24 : decode cX7_putBack 24 = .ok (.goto (-22), 3) := by decide +kernel
theorem dX7_putBack_27 : decode cX7_putBack 27 = .ok (.return_, 1) := by decide +kernel
theorem dX7_change_0 : decode cX7_change 0 = .ok (.iload_n 1, 1) := by decide +kernel
theorem dX7_change_1 : decode cX7_change 1 = .ok (.ifCond .ge 9, 3) := by decide +kernel
theorem dX7_change_4 : decode cX7_change 4 = .ok (.aload_n 0, 1) := by decide +kernel
theorem dX7_change_5 : decode cX7_change 5 = .ok (.invokevirtual 25, 3) := by decide +kernel
theorem dX7_change_8 : decode cX7_change 8 = .ok (.iload_n 1, 1) := by decide +kernel
theorem dX7_change_9 : decode cX7_change 9 = .ok (.ireturn, 1) := by decide +kernel
theorem dX7_change_10 : decode cX7_change 10 = .ok (.aload_n 0, 1) := by decide +kernel
theorem dX7_change_11 : decode cX7_change 11 = .ok (.getfield 28, 3) := by decide +kernel
theorem dX7_change_14 : decode cX7_change 14 = .ok (.iconst 4, 1) := by decide +kernel
theorem dX7_change_15 : decode cX7_change 15 = .ok (.if_icmp .ne 44, 3) := by decide +kernel
theorem dX7_change_18 : decode cX7_change 18 = .ok (.iconst 0, 1) := by decide +kernel
theorem dX7_change_19 : decode cX7_change 19 = .ok (.istore_n 2, 1) := by decide +kernel
theorem dX7_change_20 : decode cX7_change 20 = .ok (.iload_n 2, 1) := by decide +kernel
theorem dX7_change_21 : decode cX7_change 21 = .ok (.sipush 1662, 3) := by decide +kernel
theorem dX7_change_24 : decode cX7_change 24 = .ok (.if_icmp .ge 25, 3) := by decide +kernel
theorem dX7_change_27 : decode cX7_change 27 = .ok (.aload_n 0, 1) := by decide +kernel
theorem dX7_change_28 : decode cX7_change 28 = .ok (.getfield 16, 3) := by decide +kernel
theorem dX7_change_31 : decode cX7_change 31 = .ok (.iload_n 2, 1) := by decide +kernel
theorem dX7_change_32 : decode cX7_change 32 = .ok (.aload_n 0, 1) := by decide +kernel
theorem dX7_change_33 : decode cX7_change 33 = .ok (.getfield 16, 3) := by decide +kernel
theorem dX7_change_36 : decode cX7_change 36 = .ok (.sipush 554, 3) := by decide +kernel
theorem dX7_change_39 : decode cX7_change 39 = .ok (.iload_n 2, 1) := by decide +kernel
theorem dX7_change_40 : decode cX7_change 40 = .ok (.iadd, 1) := by decide +kernel
theorem dX7_change_41 : decode cX7_change 41 = .ok (.iaload, 1) := by decide +kernel
theorem dX7_change_42 : decode cX7_change 42 = .ok (.iastore, 1) := by decide +kernel
theorem dX7_change_43 : decode cX7_change 43 = .ok (.iinc 2 1, 3) := by decide +kernel
theorem dX7_change_46 : decode cX7_change 46 = .ok (.goto (-26), 3) := by decide +kernel
theorem dX7_change_49 : decode cX7_change 49 = .ok (.aload_n 0, 1) := by decide +kernel
theorem dX7_change_50 : decode cX7_change 50 = .ok (.dup, 1) := by decide +kernel
theorem dX7_change_51 : decode cX7_change 51 = .ok (.getfield 28, 3) := by decide +kernel
theorem dX7_change_54 : decode cX7_change 54 = .ok (.iconst 1, 1) := by decide +kernel
theorem dX7_change_55 : decode cX7_change 55 = .ok (.isub, 1) := by decide +kernel
theorem dX7_change_56 : decode cX7_change 56 = .ok (.putfield 28, 3) := by decide +kernel
theorem dX7_change_59 : decode cX7_change 59 = .ok (.iconst 0, 1) := by decide +kernel
theorem dX7_change_60 : decode cX7_change 60 = .ok (.istore_n 2, 1) := by decide +kernel
theorem dX7_change_61 : decode cX7_change 61 = .ok (.iload_n 2, 1) := by decide +kernel
theorem dX7_change_62 : decode cX7_change 62 = .ok (.sipush 554, 3) := by decide +kernel
theorem dX7_change_65 : decode cX7_change 65 = .ok (.if_icmp .ge 30, 3) := by decide +kernel
theorem dX7_change_68 : decode cX7_change 68 = .ok (.aload_n 0, 1) := by decide +kernel
theorem dX7_change_69 : decode cX7_change 69 = .ok (.getfield 16, 3) := by decide +kernel
theorem dX7_change_72 : decode cX7_change 72 = .ok (.sipush 554, 3) := by decide +kernel
theorem dX7_change_75 : decode cX7_change 75 = .ok (.aload_n 0, 1) := by decide +kernel
theorem dX7_change_76 : decode cX7_change 76 = .ok (.getfield 28, 3) := by decide +kernel
theorem dX7_change_79 : decode cX7_change 79 = .ok (.imul, 1) := by decide +kernel
theorem dX7_change_80 : decode cX7_change 80 = .ok (.iload_n 2, 1) := by decide +kernel
theorem dX7_change_81 : decode cX7_change 81 = .ok (.iadd, 1) := by decide +kernel
theorem dX7_change_82 : decode cX7_change 82 = .ok (.aload_n 0, 1) := by decide +kernel
theorem dX7_change_83 : decode cX7_change 83 = .ok (.getfield 13, 3) := by decide +kernel
theorem dX7_change_86 : decode cX7_change 86 = .ok (.iload_n 2, 1) := by decide +kernel
theorem dX7_change_87 : decode cX7_change 87 = .ok (.iaload, 1) := by decide +kernel
theorem dX7_change_88 : decode cX7_change 88 = .ok (.iastore, 1) := by decide +kernel
theorem dX7_change_89 : decode cX7_change 89 = .ok (.iinc 2 1, 3) := by decide +kernel
theorem dX7_change_92 : decode cX7_change 92 = .ok (.goto (-31), 3) := by decide +kernel
theorem dX7_change_95 : decode cX7_change 95 = .ok (.aload_n 0, 1) := by decide +kernel
theorem dX7_change_96 : decode cX7_change 96 = .ok (.dup, 1) := by decide +kernel
theorem dX7_change_97 : decode cX7_change 97 = .ok (.getfield 28, 3) := by decide +kernel
theorem dX7_change_100 : decode cX7_change 100 = .ok (.iconst 1, 1) := by decide +kernel
theorem dX7_change_101 : decode cX7_change 101 = .ok (.iadd, 1) := by decide +kernel
theorem dX7_change_102 : decode cX7_change 102 = .ok (.putfield 28, 3) := by decide +kernel
theorem dX7_change_105 : decode cX7_change 105 = .ok (.iload_n 1, 1) := by decide +kernel
theorem dX7_change_106 : decode cX7_change 106 = .ok (.ireturn, 1) := by decide +kernel
theorem dX7_at_0 : decode cX7_at 0 = .ok (.iconst 1, 1) := by decide +kernel
theorem dX7_at_1 : decode cX7_at 1 = .ok (.bipush 41, 2) := by decide +kernel
theorem dX7_at_3 : decode cX7_at 3 = .ok (.iload_n 0, 1) := by decide +kernel
theorem dX7_at_4 : decode cX7_at 4 = .ok (.imul, 1) := by decide +kernel
theorem dX7_at_5 : decode cX7_at 5 = .ok (.iadd, 1) := by decide +kernel
theorem dX7_at_6 : decode cX7_at 6 = .ok (.iload_n 1, 1) := by decide +kernel
theorem dX7_at_7 : decode cX7_at 7 = .ok (.iadd, 1) := by decide +kernel
theorem dX7_at_8 : decode cX7_at 8 = .ok (.ireturn, 1) := by decide +kernel
theorem dX7_of_0 : decode cX7_of 0 = .ok (.sipush 336, 3) := by decide +kernel
theorem dX7_of_3 : decode cX7_of 3 = .ok (.bipush 7, 2) := by decide +kernel
theorem dX7_of_5 : decode cX7_of 5 = .ok (.iload_n 0, 1) := by decide +kernel
theorem dX7_of_6 : decode cX7_of 6 = .ok (.imul, 1) := by decide +kernel
theorem dX7_of_7 : decode cX7_of 7 = .ok (.iadd, 1) := by decide +kernel
theorem dX7_of_8 : decode cX7_of 8 = .ok (.iload_n 1, 1) := by decide +kernel
theorem dX7_of_9 : decode cX7_of 9 = .ok (.iadd, 1) := by decide +kernel
theorem dX7_of_10 : decode cX7_of 10 = .ok (.ireturn, 1) := by decide +kernel
theorem dX7_isCourse_0 : decode cX7_isCourse 0 = .ok (.iload_n 1, 1) := by decide +kernel
theorem dX7_isCourse_1 : decode cX7_isCourse 1 = .ok (.iconst 0, 1) := by decide +kernel
theorem dX7_isCourse_2 : decode cX7_isCourse 2 = .ok (.aload_n 0, 1) := by decide +kernel
theorem dX7_isCourse_3 : decode cX7_isCourse 3 = .ok (.getfield 7, 3) := by decide +kernel
theorem dX7_isCourse_6 : decode cX7_isCourse 6 = .ok (.iconst 0, 1) := by decide +kernel
theorem dX7_isCourse_7 : decode cX7_isCourse 7 = .ok (.iaload, 1) := by decide +kernel
theorem dX7_isCourse_8 : decode cX7_isCourse 8 = .ok (.iconst 1, 1) := by decide +kernel
theorem dX7_isCourse_9 : decode cX7_isCourse 9 = .ok (.isub, 1) := by decide +kernel
theorem dX7_isCourse_10 : decode cX7_isCourse 10 = .ok (.invokestatic 32, 3) := by decide +kernel
theorem dX7_isCourse_13 : decode cX7_isCourse 13 = .ok (.ireturn, 1) := by decide +kernel
theorem dX7_isPerson_0 : decode cX7_isPerson 0 = .ok (.iload_n 1, 1) := by decide +kernel
theorem dX7_isPerson_1 : decode cX7_isPerson 1 = .ok (.iconst 0, 1) := by decide +kernel
theorem dX7_isPerson_2 : decode cX7_isPerson 2 = .ok (.aload_n 0, 1) := by decide +kernel
theorem dX7_isPerson_3 : decode cX7_isPerson 3 = .ok (.getfield 7, 3) := by decide +kernel
theorem dX7_isPerson_6 : decode cX7_isPerson 6 = .ok (.sipush 335, 3) := by decide +kernel
theorem dX7_isPerson_9 : decode cX7_isPerson 9 = .ok (.iaload, 1) := by decide +kernel
theorem dX7_isPerson_10 : decode cX7_isPerson 10 = .ok (.iconst 1, 1) := by decide +kernel
theorem dX7_isPerson_11 : decode cX7_isPerson 11 = .ok (.isub, 1) := by decide +kernel
theorem dX7_isPerson_12 : decode cX7_isPerson 12 = .ok (.invokestatic 32, 3) := by decide +kernel
theorem dX7_isPerson_15 : decode cX7_isPerson 15 = .ok (.ireturn, 1) := by decide +kernel
theorem dX7_isRoom_0 : decode cX7_isRoom 0 = .ok (.iload_n 1, 1) := by decide +kernel
theorem dX7_isRoom_1 : decode cX7_isRoom 1 = .ok (.iconst 0, 1) := by decide +kernel
theorem dX7_isRoom_2 : decode cX7_isRoom 2 = .ok (.aload_n 0, 1) := by decide +kernel
theorem dX7_isRoom_3 : decode cX7_isRoom 3 = .ok (.getfield 7, 3) := by decide +kernel
theorem dX7_isRoom_6 : decode cX7_isRoom 6 = .ok (.sipush 329, 3) := by decide +kernel
theorem dX7_isRoom_9 : decode cX7_isRoom 9 = .ok (.iaload, 1) := by decide +kernel
theorem dX7_isRoom_10 : decode cX7_isRoom 10 = .ok (.iconst 1, 1) := by decide +kernel
theorem dX7_isRoom_11 : decode cX7_isRoom 11 = .ok (.isub, 1) := by decide +kernel
theorem dX7_isRoom_12 : decode cX7_isRoom 12 = .ok (.invokestatic 32, 3) := by decide +kernel
theorem dX7_isRoom_15 : decode cX7_isRoom 15 = .ok (.ireturn, 1) := by decide +kernel
theorem dX7_isHere_0 : decode cX7_isHere 0 = .ok (.aload_n 0, 1) := by decide +kernel
theorem dX7_isHere_1 : decode cX7_isHere 1 = .ok (.getfield 7, 3) := by decide +kernel
theorem dX7_isHere_4 : decode cX7_isHere 4 = .ok (.iload_n 1, 1) := by decide +kernel
theorem dX7_isHere_5 : decode cX7_isHere 5 = .ok (.iconst 0, 1) := by decide +kernel
theorem dX7_isHere_6 : decode cX7_isHere 6 = .ok (.invokestatic 36, 3) := by decide +kernel
theorem dX7_isHere_9 : decode cX7_isHere 9 = .ok (.iaload, 1) := by decide +kernel
theorem dX7_isHere_10 : decode cX7_isHere 10 = .ok (.iconst 1, 1) := by decide +kernel
theorem dX7_isHere_11 : decode cX7_isHere 11 = .ok (.if_icmp .ne 7, 3) := by decide +kernel
theorem dX7_isHere_14 : decode cX7_isHere 14 = .ok (.iconst 1, 1) := by decide +kernel
theorem dX7_isHere_15 : decode cX7_isHere 15 = .ok (.goto 4, 3) := by decide +kernel
theorem dX7_isHere_18 : decode cX7_isHere 18 = .ok (.iconst 0, 1) := by decide +kernel
theorem dX7_isHere_19 : decode cX7_isHere 19 = .ok (.ireturn, 1) := by decide +kernel
theorem dX7_isOpen_0 : decode cX7_isOpen 0 = .ok (.aload_n 0, 1) := by decide +kernel
theorem dX7_isOpen_1 : decode cX7_isOpen 1 = .ok (.getfield 7, 3) := by decide +kernel
theorem dX7_isOpen_4 : decode cX7_isOpen 4 = .ok (.iload_n 1, 1) := by decide +kernel
theorem dX7_isOpen_5 : decode cX7_isOpen 5 = .ok (.bipush 6, 2) := by decide +kernel
theorem dX7_isOpen_7 : decode cX7_isOpen 7 = .ok (.invokestatic 40, 3) := by decide +kernel
theorem dX7_isOpen_10 : decode cX7_isOpen 10 = .ok (.iaload, 1) := by decide +kernel
theorem dX7_isOpen_11 : decode cX7_isOpen 11 = .ok (.ifCond .ne 7, 3) := by decide +kernel
theorem dX7_isOpen_14 : decode cX7_isOpen 14 = .ok (.iconst 1, 1) := by decide +kernel
theorem dX7_isOpen_15 : decode cX7_isOpen 15 = .ok (.goto 4, 3) := by decide +kernel
theorem dX7_isOpen_18 : decode cX7_isOpen 18 = .ok (.iconst 0, 1) := by decide +kernel
theorem dX7_isOpen_19 : decode cX7_isOpen 19 = .ok (.ireturn, 1) := by decide +kernel
theorem dX7_people_0 : decode cX7_people 0 = .ok (.aload_n 0, 1) := by decide +kernel
theorem dX7_people_1 : decode cX7_people 1 = .ok (.getfield 7, 3) := by decide +kernel
theorem dX7_people_4 : decode cX7_people 4 = .ok (.iload_n 1, 1) := by decide +kernel
theorem dX7_people_5 : decode cX7_people 5 = .ok (.bipush 10, 2) := by decide +kernel
theorem dX7_people_7 : decode cX7_people 7 = .ok (.invokestatic 40, 3) := by decide +kernel
theorem dX7_people_10 : decode cX7_people 10 = .ok (.iaload, 1) := by decide +kernel
theorem dX7_people_11 : decode cX7_people 11 = .ok (.ireturn, 1) := by decide +kernel
theorem dX7_hasFree_0 : decode cX7_hasFree 0 = .ok (.aload_n 0, 1) := by decide +kernel
theorem dX7_hasFree_1 : decode cX7_hasFree 1 = .ok (.iload_n 1, 1) := by decide +kernel
theorem dX7_hasFree_2 : decode cX7_hasFree 2 = .ok (.invokevirtual 43, 3) := by decide +kernel
theorem dX7_hasFree_5 : decode cX7_hasFree 5 = .ok (.ifCond .eq 25, 3) := by decide +kernel
theorem dX7_hasFree_8 : decode cX7_hasFree 8 = .ok (.aload_n 0, 1) := by decide +kernel
theorem dX7_hasFree_9 : decode cX7_hasFree 9 = .ok (.iload_n 1, 1) := by decide +kernel
theorem dX7_hasFree_10 : decode cX7_hasFree 10 = .ok (.invokevirtual 47, 3) := by decide +kernel
theorem dX7_hasFree_13 : decode cX7_hasFree 13 = .ok (.aload_n 0, 1) := by decide +kernel
theorem dX7_hasFree_14 : decode cX7_hasFree 14 = .ok (.getfield 7, 3) := by decide +kernel
theorem dX7_hasFree_17 : decode cX7_hasFree 17 = .ok (.iload_n 1, 1) := by decide +kernel
theorem dX7_hasFree_18 : decode cX7_hasFree 18 = .ok (.iconst 4, 1) := by decide +kernel
theorem dX7_hasFree_19 : decode cX7_hasFree 19 = .ok (.invokestatic 40, 3) := by decide +kernel
theorem dX7_hasFree_22 : decode cX7_hasFree 22 = .ok (.iaload, 1) := by decide +kernel
theorem dX7_hasFree_23 : decode cX7_hasFree 23 = .ok (.if_icmp .ge 7, 3) := by decide +kernel
theorem dX7_hasFree_26 : decode cX7_hasFree 26 = .ok (.iconst 1, 1) := by decide +kernel
theorem dX7_hasFree_27 : decode cX7_hasFree 27 = .ok (.goto 4, 3) := by decide +kernel
theorem dX7_hasFree_30 : decode cX7_hasFree 30 = .ok (.iconst 0, 1) := by decide +kernel
theorem dX7_hasFree_31 : decode cX7_hasFree 31 = .ok (.ireturn, 1) := by decide +kernel
theorem dX7_rankOf_0 : decode cX7_rankOf 0 = .ok (.iconst 0, 1) := by decide +kernel
theorem dX7_rankOf_1 : decode cX7_rankOf 1 = .ok (.istore_n 3, 1) := by decide +kernel
theorem dX7_rankOf_2 : decode cX7_rankOf 2 = .ok (.iload_n 3, 1) := by decide +kernel
theorem dX7_rankOf_3 : decode cX7_rankOf 3 = .ok (.iconst 3, 1) := by decide +kernel
theorem dX7_rankOf_4 : decode cX7_rankOf 4 = .ok (.if_icmp .ge 27, 3) := by decide +kernel
theorem dX7_rankOf_7 : decode cX7_rankOf 7 = .ok (.aload_n 0, 1) := by decide +kernel
theorem dX7_rankOf_8 : decode cX7_rankOf 8 = .ok (.getfield 7, 3) := by decide +kernel
theorem dX7_rankOf_11 : decode cX7_rankOf 11 = .ok (.iload_n 1, 1) := by decide +kernel
theorem dX7_rankOf_12 : decode cX7_rankOf 12 = .ok (.iconst 1, 1) := by decide +kernel
theorem dX7_rankOf_13 : decode cX7_rankOf 13 = .ok (.iload_n 3, 1) := by decide +kernel
theorem dX7_rankOf_14 : decode cX7_rankOf 14 = .ok (.iadd, 1) := by decide +kernel
theorem dX7_rankOf_15 : decode cX7_rankOf 15 = .ok (.invokestatic 36, 3) := by decide +kernel
theorem dX7_rankOf_18 : decode cX7_rankOf 18 = .ok (.iaload, 1) := by decide +kernel
theorem dX7_rankOf_19 : decode cX7_rankOf 19 = .ok (.iload_n 2, 1) := by decide +kernel
theorem dX7_rankOf_20 : decode cX7_rankOf 20 = .ok (.if_icmp .ne 5, 3) := by decide +kernel
theorem dX7_rankOf_23 : decode cX7_rankOf 23 = .ok (.iload_n 3, 1) := by decide +kernel
theorem dX7_rankOf_24 : decode cX7_rankOf 24 = .ok (.ireturn, 1) := by decide +kernel
theorem dX7_rankOf_25 : decode cX7_rankOf 25 = .ok (.iinc 3 1, 3) := by decide +kernel
theorem dX7_rankOf_28 : decode cX7_rankOf 28 = .ok (.goto (-26), 3) := by decide +kernel
theorem dX7_rankOf_31 : decode cX7_rankOf 31 = .ok (.iconst 3, 1) := by decide +kernel
theorem dX7_rankOf_32 : decode cX7_rankOf 32 = .ok (.ireturn, 1) := by decide +kernel
theorem dX7_rank_0 : decode cX7_rank 0 = .ok (.aload_n 0, 1) := by decide +kernel
theorem dX7_rank_1 : decode cX7_rank 1 = .ok (.getfield 7, 3) := by decide +kernel
theorem dX7_rank_4 : decode cX7_rank 4 = .ok (.iload_n 1, 1) := by decide +kernel
theorem dX7_rank_5 : decode cX7_rank 5 = .ok (.iconst 4, 1) := by decide +kernel
theorem dX7_rank_6 : decode cX7_rank 6 = .ok (.invokestatic 36, 3) := by decide +kernel
theorem dX7_rank_9 : decode cX7_rank 9 = .ok (.iaload, 1) := by decide +kernel
theorem dX7_rank_10 : decode cX7_rank 10 = .ok (.istore_n 2, 1) := by decide +kernel
theorem dX7_rank_11 : decode cX7_rank 11 = .ok (.iload_n 2, 1) := by decide +kernel
theorem dX7_rank_12 : decode cX7_rank 12 = .ok (.ifCond .ge 7, 3) := by decide +kernel
theorem dX7_rank_15 : decode cX7_rank 15 = .ok (.iconst 4, 1) := by decide +kernel
theorem dX7_rank_16 : decode cX7_rank 16 = .ok (.goto 9, 3) := by decide +kernel
theorem dX7_rank_19 : decode cX7_rank 19 = .ok (.aload_n 0, 1) := by decide +kernel
theorem dX7_rank_20 : decode cX7_rank 20 = .ok (.iload_n 1, 1) := by decide +kernel
theorem dX7_rank_21 : decode cX7_rank 21 = .ok (.iload_n 2, 1) := by decide +kernel
theorem dX7_rank_22 : decode cX7_rank 22 = .ok (.invokevirtual 51, 3) := by decide +kernel
theorem dX7_rank_25 : decode cX7_rank 25 = .ok (.ireturn, 1) := by decide +kernel
theorem dX7_goesOut_0 : decode cX7_goesOut 0 = .ok (.aload_n 0, 1) := by decide +kernel
theorem dX7_goesOut_1 : decode cX7_goesOut 1 = .ok (.getfield 7, 3) := by decide +kernel
theorem dX7_goesOut_4 : decode cX7_goesOut 4 = .ok (.iload_n 1, 1) := by decide +kernel
theorem dX7_goesOut_5 : decode cX7_goesOut 5 = .ok (.iconst 4, 1) := by decide +kernel
theorem dX7_goesOut_6 : decode cX7_goesOut 6 = .ok (.invokestatic 36, 3) := by decide +kernel
theorem dX7_goesOut_9 : decode cX7_goesOut 9 = .ok (.iaload, 1) := by decide +kernel
theorem dX7_goesOut_10 : decode cX7_goesOut 10 = .ok (.istore_n 2, 1) := by decide +kernel
theorem dX7_goesOut_11 : decode cX7_goesOut 11 = .ok (.iload_n 2, 1) := by decide +kernel
theorem dX7_goesOut_12 : decode cX7_goesOut 12 = .ok (.ifCond .ge 4, 3) := by decide +kernel
theorem dX7_goesOut_15 : decode cX7_goesOut 15 = .ok (.return_, 1) := by decide +kernel
theorem dX7_goesOut_16 : decode cX7_goesOut 16 = .ok (.iconst 0, 1) := by decide +kernel
theorem dX7_goesOut_17 : decode cX7_goesOut 17 = .ok (.istore_n 3, 1) := by decide +kernel
theorem dX7_goesOut_18 : decode cX7_goesOut 18 = .ok (.iconst 0, 1) := by decide +kernel
theorem dX7_goesOut_19 : decode cX7_goesOut 19 = .ok (.istore 4, 2) := by decide +kernel
theorem dX7_goesOut_21 : decode cX7_goesOut 21 = .ok (.iload 4, 2) := by decide +kernel
theorem dX7_goesOut_23 : decode cX7_goesOut 23 = .ok (.aload_n 0, 1) := by decide +kernel
theorem dX7_goesOut_24 : decode cX7_goesOut 24 = .ok (.iload_n 2, 1) := by decide +kernel
theorem dX7_goesOut_25 : decode cX7_goesOut 25 = .ok (.invokevirtual 47, 3) := by decide +kernel
theorem dX7_goesOut_28 : decode cX7_goesOut 28 = .ok (.if_icmp .ge 54, 3) := by decide +kernel
theorem dX7_goesOut_31 : decode cX7_goesOut 31 = .ok (.aload_n 0, 1) := by decide +kernel
theorem dX7_goesOut_32 : decode cX7_goesOut 32 = .ok (.getfield 7, 3) := by decide +kernel
theorem dX7_goesOut_35 : decode cX7_goesOut 35 = .ok (.iload_n 2, 1) := by decide +kernel
theorem dX7_goesOut_36 : decode cX7_goesOut 36 = .ok (.bipush 11, 2) := by decide +kernel
theorem dX7_goesOut_38 : decode cX7_goesOut 38 = .ok (.iload 4, 2) := by decide +kernel
theorem dX7_goesOut_40 : decode cX7_goesOut 40 = .ok (.iadd, 1) := by decide +kernel
theorem dX7_goesOut_41 : decode cX7_goesOut 41 = .ok (.invokestatic 40, 3) := by decide +kernel
theorem dX7_goesOut_44 : decode cX7_goesOut 44 = .ok (.iaload, 1) := by decide +kernel
theorem dX7_goesOut_45 : decode cX7_goesOut 45 = .ok (.istore 5, 2) := by decide +kernel
theorem dX7_goesOut_47 : decode cX7_goesOut 47 = .ok (.aload_n 0, 1) := by decide +kernel
theorem dX7_goesOut_48 : decode cX7_goesOut 48 = .ok (.getfield 7, 3) := by decide +kernel
theorem dX7_goesOut_51 : decode cX7_goesOut 51 = .ok (.iload_n 2, 1) := by decide +kernel
theorem dX7_goesOut_52 : decode cX7_goesOut 52 = .ok (.bipush 11, 2) := by decide +kernel
theorem dX7_goesOut_54 : decode cX7_goesOut 54 = .ok (.iload_n 3, 1) := by decide +kernel
theorem dX7_goesOut_55 : decode cX7_goesOut 55 = .ok (.iadd, 1) := by decide +kernel
theorem dX7_goesOut_56 : decode cX7_goesOut 56 = .ok (.invokestatic 40, 3) := by decide +kernel
theorem dX7_goesOut_59 : decode cX7_goesOut 59 = .ok (.iload 5, 2) := by decide +kernel
theorem dX7_goesOut_61 : decode cX7_goesOut 61 = .ok (.iastore, 1) := by decide +kernel
theorem dX7_goesOut_62 : decode cX7_goesOut 62 = .ok (.iload_n 3, 1) := by decide +kernel
theorem dX7_goesOut_63 : decode cX7_goesOut 63 = .ok (.iload 5, 2) := by decide +kernel
theorem dX7_goesOut_65 : decode cX7_goesOut 65 = .ok (.iload_n 1, 1) := by decide +kernel
theorem dX7_goesOut_66 : decode cX7_goesOut 66 = .ok (.if_icmp .ne 7, 3) := by decide +kernel
theorem dX7_goesOut_69 : decode cX7_goesOut 69 = .ok (.iconst 0, 1) := by decide +kernel
theorem dX7_goesOut_70 : decode cX7_goesOut 70 = .ok (.goto 4, 3) := by decide +kernel
theorem dX7_goesOut_73 : decode cX7_goesOut 73 = .ok (.iconst 1, 1) := by decide +kernel
theorem dX7_goesOut_74 : decode cX7_goesOut 74 = .ok (.iadd, 1) := by decide +kernel
theorem dX7_goesOut_75 : decode cX7_goesOut 75 = .ok (.istore_n 3, 1) := by decide +kernel
theorem dX7_goesOut_76 : decode cX7_goesOut 76 = .ok (.iinc 4 1, 3) := by decide +kernel
theorem dX7_goesOut_79 : decode cX7_goesOut 79 = .ok (.goto (-58), 3) := by decide +kernel
theorem dX7_goesOut_82 : decode cX7_goesOut 82 = .ok (.aload_n 0, 1) := by decide +kernel
theorem dX7_goesOut_83 : decode cX7_goesOut 83 = .ok (.getfield 7, 3) := by decide +kernel
theorem dX7_goesOut_86 : decode cX7_goesOut 86 = .ok (.iload_n 2, 1) := by decide +kernel
theorem dX7_goesOut_87 : decode cX7_goesOut 87 = .ok (.bipush 10, 2) := by decide +kernel
theorem dX7_goesOut_89 : decode cX7_goesOut 89 = .ok (.invokestatic 40, 3) := by decide +kernel
theorem dX7_goesOut_92 : decode cX7_goesOut 92 = .ok (.iload_n 3, 1) := by decide +kernel
theorem dX7_goesOut_93 : decode cX7_goesOut 93 = .ok (.iastore, 1) := by decide +kernel
theorem dX7_goesOut_94 : decode cX7_goesOut 94 = .ok (.aload_n 0, 1) := by decide +kernel
theorem dX7_goesOut_95 : decode cX7_goesOut 95 = .ok (.getfield 7, 3) := by decide +kernel
theorem dX7_goesOut_98 : decode cX7_goesOut 98 = .ok (.sipush 549, 3) := by decide +kernel
theorem dX7_goesOut_101 : decode cX7_goesOut 101 = .ok (.dup2, 1) := by decide +kernel
theorem dX7_goesOut_102 : decode cX7_goesOut 102 = .ok (.iaload, 1) := by decide +kernel
theorem dX7_goesOut_103 : decode cX7_goesOut 103 = .ok (.aload_n 0, 1) := by decide +kernel
theorem dX7_goesOut_104 : decode cX7_goesOut 104 = .ok (.getfield 7, 3) := by decide +kernel
theorem dX7_goesOut_107 : decode cX7_goesOut 107 = .ok (.iload_n 1, 1) := by decide +kernel
theorem dX7_goesOut_108 : decode cX7_goesOut 108 = .ok (.iconst 5, 1) := by decide +kernel
theorem dX7_goesOut_109 : decode cX7_goesOut 109 = .ok (.invokestatic 36, 3) := by decide +kernel
theorem dX7_goesOut_112 : decode cX7_goesOut 112 = .ok (.iaload, 1) := by decide +kernel
theorem dX7_goesOut_113 : decode cX7_goesOut 113 = .ok (.iadd, 1) := by decide +kernel
theorem dX7_goesOut_114 : decode cX7_goesOut 114 = .ok (.iastore, 1) := by decide +kernel
theorem dX7_goesOut_115 : decode cX7_goesOut 115 = .ok (.aload_n 0, 1) := by decide +kernel
theorem dX7_goesOut_116 : decode cX7_goesOut 116 = .ok (.getfield 7, 3) := by decide +kernel
theorem dX7_goesOut_119 : decode cX7_goesOut 119 = .ok (.iload_n 1, 1) := by decide +kernel
theorem dX7_goesOut_120 : decode cX7_goesOut 120 = .ok (.iconst 5, 1) := by decide +kernel
theorem dX7_goesOut_121 : decode cX7_goesOut 121 = .ok (.invokestatic 36, 3) := by decide +kernel
theorem dX7_goesOut_124 : decode cX7_goesOut 124 = .ok (.iconst 0, 1) := by decide +kernel
theorem dX7_goesOut_125 : decode cX7_goesOut 125 = .ok (.iastore, 1) := by decide +kernel
theorem dX7_goesOut_126 : decode cX7_goesOut 126 = .ok (.aload_n 0, 1) := by decide +kernel
theorem dX7_goesOut_127 : decode cX7_goesOut 127 = .ok (.getfield 7, 3) := by decide +kernel
theorem dX7_goesOut_130 : decode cX7_goesOut 130 = .ok (.iload_n 1, 1) := by decide +kernel
theorem dX7_goesOut_131 : decode cX7_goesOut 131 = .ok (.iconst 4, 1) := by decide +kernel
theorem dX7_goesOut_132 : decode cX7_goesOut 132 = .ok (.invokestatic 36, 3) := by decide +kernel
theorem dX7_goesOut_135 : decode cX7_goesOut 135 = .ok (.iconst (-1), 1) := by decide +kernel
theorem dX7_goesOut_136 : decode cX7_goesOut 136 = .ok (.iastore, 1) := by decide +kernel
theorem dX7_goesOut_137 : decode cX7_goesOut 137 = .ok (.return_, 1) := by decide +kernel
theorem dX7_joins_0 : decode cX7_joins 0 = .ok (.aload_n 0, 1) := by decide +kernel
theorem dX7_joins_1 : decode cX7_joins 1 = .ok (.getfield 7, 3) := by decide +kernel
theorem dX7_joins_4 : decode cX7_joins 4 = .ok (.iload_n 2, 1) := by decide +kernel
theorem dX7_joins_5 : decode cX7_joins 5 = .ok (.bipush 11, 2) := by decide +kernel
theorem dX7_joins_7 : decode cX7_joins 7 = .ok (.aload_n 0, 1) := by decide +kernel
theorem dX7_joins_8 : decode cX7_joins 8 = .ok (.iload_n 2, 1) := by decide +kernel
theorem dX7_joins_9 : decode cX7_joins 9 = .ok (.invokevirtual 47, 3) := by decide +kernel
theorem dX7_joins_12 : decode cX7_joins 12 = .ok (.iadd, 1) := by decide +kernel
theorem dX7_joins_13 : decode cX7_joins 13 = .ok (.invokestatic 40, 3) := by decide +kernel
theorem dX7_joins_16 : decode cX7_joins 16 = .ok (.iload_n 1, 1) := by decide +kernel
theorem dX7_joins_17 : decode cX7_joins 17 = .ok (.iastore, 1) := by decide +kernel
theorem dX7_joins_18 : decode cX7_joins 18 = .ok (.aload_n 0, 1) := by decide +kernel
theorem dX7_joins_19 : decode cX7_joins 19 = .ok (.getfield 7, 3) := by decide +kernel
theorem dX7_joins_22 : decode cX7_joins 22 = .ok (.iload_n 2, 1) := by decide +kernel
theorem dX7_joins_23 : decode cX7_joins 23 = .ok (.bipush 10, 2) := by decide +kernel
theorem dX7_joins_25 : decode cX7_joins 25 = .ok (.invokestatic 40, 3) := by decide +kernel
theorem dX7_joins_28 : decode cX7_joins 28 = .ok (.dup2, 1) := by decide +kernel
theorem dX7_joins_29 : decode cX7_joins 29 = .ok (.iaload, 1) := by decide +kernel
theorem dX7_joins_30 : decode cX7_joins 30 = .ok (.iconst 1, 1) := by decide +kernel
theorem dX7_joins_31 : decode cX7_joins 31 = .ok (.iadd, 1) := by decide +kernel
theorem dX7_joins_32 : decode cX7_joins 32 = .ok (.iastore, 1) := by decide +kernel
theorem dX7_joins_33 : decode cX7_joins 33 = .ok (.aload_n 0, 1) := by decide +kernel
theorem dX7_joins_34 : decode cX7_joins 34 = .ok (.getfield 7, 3) := by decide +kernel
theorem dX7_joins_37 : decode cX7_joins 37 = .ok (.iload_n 1, 1) := by decide +kernel
theorem dX7_joins_38 : decode cX7_joins 38 = .ok (.iconst 4, 1) := by decide +kernel
theorem dX7_joins_39 : decode cX7_joins 39 = .ok (.invokestatic 36, 3) := by decide +kernel
theorem dX7_joins_42 : decode cX7_joins 42 = .ok (.iload_n 2, 1) := by decide +kernel
theorem dX7_joins_43 : decode cX7_joins 43 = .ok (.iastore, 1) := by decide +kernel
theorem dX7_joins_44 : decode cX7_joins 44 = .ok (.aload_n 0, 1) := by decide +kernel
theorem dX7_joins_45 : decode cX7_joins 45 = .ok (.getfield 7, 3) := by decide +kernel
theorem dX7_joins_48 : decode cX7_joins 48 = .ok (.iload_n 1, 1) := by decide +kernel
theorem dX7_joins_49 : decode cX7_joins 49 = .ok (.bipush 6, 2) := by decide +kernel
theorem dX7_joins_51 : decode cX7_joins 51 = .ok (.invokestatic 36, 3) := by decide +kernel
theorem dX7_joins_54 : decode cX7_joins 54 = .ok (.dup2, 1) := by decide +kernel
theorem dX7_joins_55 : decode cX7_joins 55 = .ok (.iaload, 1) := by decide +kernel
theorem dX7_joins_56 : decode cX7_joins 56 = .ok (.iconst 1, 1) := by decide +kernel
theorem dX7_joins_57 : decode cX7_joins 57 = .ok (.iadd, 1) := by decide +kernel
theorem dX7_joins_58 : decode cX7_joins 58 = .ok (.iastore, 1) := by decide +kernel
theorem dX7_joins_59 : decode cX7_joins 59 = .ok (.return_, 1) := by decide +kernel
theorem dX7_better_0 : decode cX7_better 0 = .ok (.aload_n 0, 1) := by decide +kernel
theorem dX7_better_1 : decode cX7_better 1 = .ok (.iload_n 1, 1) := by decide +kernel
theorem dX7_better_2 : decode cX7_better 2 = .ok (.invokevirtual 54, 3) := by decide +kernel
theorem dX7_better_5 : decode cX7_better 5 = .ok (.ifCond .eq 11, 3) := by decide +kernel
theorem dX7_better_8 : decode cX7_better 8 = .ok (.aload_n 0, 1) := by decide +kernel
theorem dX7_better_9 : decode cX7_better 9 = .ok (.iload_n 1, 1) := by decide +kernel
theorem dX7_better_10 : decode cX7_better 10 = .ok (.invokevirtual 57, 3) := by decide +kernel
theorem dX7_better_13 : decode cX7_better 13 = .ok (.goto 4, 3) := by decide +kernel
theorem dX7_better_16 : decode cX7_better 16 = .ok (.iconst 0, 1) := by decide +kernel
theorem dX7_better_17 : decode cX7_better 17 = .ok (.istore_n 2, 1) := by decide +kernel
theorem dX7_better_18 : decode cX7_better 18 = .ok (.iconst 0, 1) := by decide +kernel
theorem dX7_better_19 : decode cX7_better 19 = .ok (.istore_n 3, 1) := by decide +kernel
theorem dX7_better_20 : decode cX7_better 20 = .ok (.iload_n 3, 1) := by decide +kernel
theorem dX7_better_21 : decode cX7_better 21 = .ok (.iload_n 2, 1) := by decide +kernel
theorem dX7_better_22 : decode cX7_better 22 = .ok (.if_icmp .ge 45, 3) := by decide +kernel
theorem dX7_better_25 : decode cX7_better 25 = .ok (.iload_n 3, 1) := by decide +kernel
theorem dX7_better_26 : decode cX7_better 26 = .ok (.iconst 3, 1) := by decide +kernel
theorem dX7_better_27 : decode cX7_better 27 = .ok (.if_icmp .ge 40, 3) := by decide +kernel
theorem dX7_better_30 : decode cX7_better 30 = .ok (.aload_n 0, 1) := by decide +kernel
theorem dX7_better_31 : decode cX7_better 31 = .ok (.getfield 7, 3) := by decide +kernel
theorem dX7_better_34 : decode cX7_better 34 = .ok (.iload_n 1, 1) := by decide +kernel
theorem dX7_better_35 : decode cX7_better 35 = .ok (.iconst 1, 1) := by decide +kernel
theorem dX7_better_36 : decode cX7_better 36 = .ok (.iload_n 3, 1) := by decide +kernel
theorem dX7_better_37 : decode cX7_better 37 = .ok (.iadd, 1) := by decide +kernel
theorem dX7_better_38 : decode cX7_better 38 = .ok (.invokestatic 36, 3) := by decide +kernel
theorem dX7_better_41 : decode cX7_better 41 = .ok (.iaload, 1) := by decide +kernel
theorem dX7_better_42 : decode cX7_better 42 = .ok (.istore 4, 2) := by decide +kernel
theorem dX7_better_44 : decode cX7_better 44 = .ok (.iload 4, 2) := by decide +kernel
theorem dX7_better_46 : decode cX7_better 46 = .ok (.ifCond .lt 15, 3) := by decide +kernel
theorem dX7_better_49 : decode cX7_better 49 = .ok (.aload_n 0, 1) := by decide +kernel
theorem dX7_better_50 : decode cX7_better 50 = .ok (.iload 4, 2) := by decide +kernel
theorem dX7_better_52 : decode cX7_better 52 = .ok (.invokevirtual 60, 3) := by decide +kernel
theorem dX7_better_55 : decode cX7_better 55 = .ok (.ifCond .eq 6, 3) := by decide +kernel
theorem dX7_better_58 : decode cX7_better 58 = .ok (.iload 4, 2) := by decide +kernel
theorem dX7_better_60 : decode cX7_better 60 = .ok (.ireturn, 1) := by decide +kernel
theorem dX7_better_61 : decode cX7_better 61 = .ok (.iinc 3 1, 3) := by decide +kernel
theorem dX7_better_64 : decode cX7_better 64 = .ok (.goto (-44), 3) := by decide +kernel
theorem dX7_better_67 : decode cX7_better 67 = .ok (.iconst (-1), 1) := by decide +kernel
theorem dX7_better_68 : decode cX7_better 68 = .ok (.ireturn, 1) := by decide +kernel
theorem dX7_settle_0 : decode cX7_settle 0 = .ok (.iconst 0, 1) := by decide +kernel
theorem dX7_settle_1 : decode cX7_settle 1 = .ok (.istore_n 1, 1) := by decide +kernel
theorem dX7_settle_2 : decode cX7_settle 2 = .ok (.iload_n 1, 1) := by decide +kernel
theorem dX7_settle_3 : decode cX7_settle 3 = .ok (.aload_n 0, 1) := by decide +kernel
theorem dX7_settle_4 : decode cX7_settle 4 = .ok (.getfield 7, 3) := by decide +kernel
theorem dX7_settle_7 : decode cX7_settle 7 = .ok (.sipush 335, 3) := by decide +kernel
theorem dX7_settle_10 : decode cX7_settle 10 = .ok (.iaload, 1) := by decide +kernel
theorem dX7_settle_11 : decode cX7_settle 11 = .ok (.if_icmp .ge 88, 3) := by decide +kernel
theorem dX7_settle_14 : decode cX7_settle 14 = .ok (.aload_n 0, 1) := by decide +kernel
theorem dX7_settle_15 : decode cX7_settle 15 = .ok (.iload_n 1, 1) := by decide +kernel
theorem dX7_settle_16 : decode cX7_settle 16 = .ok (.invokevirtual 63, 3) := by decide +kernel
theorem dX7_settle_19 : decode cX7_settle 19 = .ok (.istore_n 2, 1) := by decide +kernel
theorem dX7_settle_20 : decode cX7_settle 20 = .ok (.iload_n 2, 1) := by decide +kernel
theorem dX7_settle_21 : decode cX7_settle 21 = .ok (.ifCond .lt 72, 3) := by decide +kernel
theorem dX7_settle_24 : decode cX7_settle 24 = .ok (.aload_n 0, 1) := by decide +kernel
theorem dX7_settle_25 : decode cX7_settle 25 = .ok (.iload_n 1, 1) := by decide +kernel
theorem dX7_settle_26 : decode cX7_settle 26 = .ok (.invokevirtual 66, 3) := by decide +kernel
theorem dX7_settle_29 : decode cX7_settle 29 = .ok (.aload_n 0, 1) := by decide +kernel
theorem dX7_settle_30 : decode cX7_settle 30 = .ok (.iload_n 1, 1) := by decide +kernel
theorem dX7_settle_31 : decode cX7_settle 31 = .ok (.iload_n 2, 1) := by decide +kernel
theorem dX7_settle_32 : decode cX7_settle 32 = .ok (.invokevirtual 70, 3) := by decide +kernel
theorem dX7_settle_35 : decode cX7_settle 35 = .ok (.aload_n 0, 1) := by decide +kernel
theorem dX7_settle_36 : decode cX7_settle 36 = .ok (.getfield 7, 3) := by decide +kernel
theorem dX7_settle_39 : decode cX7_settle 39 = .ok (.iload_n 1, 1) := by decide +kernel
theorem dX7_settle_40 : decode cX7_settle 40 = .ok (.iconst 5, 1) := by decide +kernel
theorem dX7_settle_41 : decode cX7_settle 41 = .ok (.invokestatic 36, 3) := by decide +kernel
theorem dX7_settle_44 : decode cX7_settle 44 = .ok (.aload_n 0, 1) := by decide +kernel
theorem dX7_settle_45 : decode cX7_settle 45 = .ok (.getfield 7, 3) := by decide +kernel
theorem dX7_settle_48 : decode cX7_settle 48 = .ok (.iload_n 2, 1) := by decide +kernel
theorem dX7_settle_49 : decode cX7_settle 49 = .ok (.iconst 5, 1) := by decide +kernel
theorem dX7_settle_50 : decode cX7_settle 50 = .ok (.invokestatic 40, 3) := by decide +kernel
theorem dX7_settle_53 : decode cX7_settle 53 = .ok (.iaload, 1) := by decide +kernel
theorem dX7_settle_54 : decode cX7_settle 54 = .ok (.iastore, 1) := by decide +kernel
theorem dX7_settle_55 : decode cX7_settle 55 = .ok (.aload_n 0, 1) := by decide +kernel
theorem dX7_settle_56 : decode cX7_settle 56 = .ok (.getfield 7, 3) := by decide +kernel
theorem dX7_settle_59 : decode cX7_settle 59 = .ok (.sipush 548, 3) := by decide +kernel
theorem dX7_settle_62 : decode cX7_settle 62 = .ok (.dup2, 1) := by decide +kernel
theorem dX7_settle_63 : decode cX7_settle 63 = .ok (.iaload, 1) := by decide +kernel
theorem dX7_settle_64 : decode cX7_settle 64 = .ok (.aload_n 0, 1) := by decide +kernel
theorem dX7_settle_65 : decode cX7_settle 65 = .ok (.getfield 7, 3) := by decide +kernel
theorem dX7_settle_68 : decode cX7_settle 68 = .ok (.iload_n 2, 1) := by decide +kernel
theorem dX7_settle_69 : decode cX7_settle 69 = .ok (.iconst 5, 1) := by decide +kernel
theorem dX7_settle_70 : decode cX7_settle 70 = .ok (.invokestatic 40, 3) := by decide +kernel
theorem dX7_settle_73 : decode cX7_settle 73 = .ok (.iaload, 1) := by decide +kernel
theorem dX7_settle_74 : decode cX7_settle 74 = .ok (.iadd, 1) := by decide +kernel
theorem dX7_settle_75 : decode cX7_settle 75 = .ok (.iastore, 1) := by decide +kernel
theorem dX7_settle_76 : decode cX7_settle 76 = .ok (.aload_n 0, 1) := by decide +kernel
theorem dX7_settle_77 : decode cX7_settle 77 = .ok (.getfield 7, 3) := by decide +kernel
theorem dX7_settle_80 : decode cX7_settle 80 = .ok (.sipush 551, 3) := by decide +kernel
theorem dX7_settle_83 : decode cX7_settle 83 = .ok (.dup2, 1) := by decide +kernel
theorem dX7_settle_84 : decode cX7_settle 84 = .ok (.iaload, 1) := by decide +kernel
theorem dX7_settle_85 : decode cX7_settle 85 = .ok (.iconst 1, 1) := by decide +kernel
theorem dX7_settle_86 : decode cX7_settle 86 = .ok (.iadd, 1) := by decide +kernel
theorem dX7_settle_87 : decode cX7_settle 87 = .ok (.iastore, 1) := by decide +kernel
theorem dX7_settle_88 : decode cX7_settle 88 = .ok (.iconst 0, 1) := by decide +kernel
theorem dX7_settle_89 : decode cX7_settle 89 = .ok (.istore_n 1, 1) := by decide +kernel
theorem dX7_settle_90 : decode cX7_settle 90 = .ok (.goto 6, 3) := by decide +kernel
theorem dX7_settle_93 : decode cX7_settle 93 = .ok (.iinc 1 1, 3) := by decide +kernel
theorem dX7_settle_96 : decode cX7_settle 96 = .ok (.goto (-94), 3) := by decide +kernel
theorem dX7_settle_99 : decode cX7_settle 99 = .ok (.return_, 1) := by decide +kernel
theorem dX7_cancels_0 : decode cX7_cancels 0 = .ok (.aload_n 0, 1) := by decide +kernel
theorem dX7_cancels_1 : decode cX7_cancels 1 = .ok (.iload_n 1, 1) := by decide +kernel
theorem dX7_cancels_2 : decode cX7_cancels 2 = .ok (.invokevirtual 47, 3) := by decide +kernel
theorem dX7_cancels_5 : decode cX7_cancels 5 = .ok (.ifCond .le 21, 3) := by decide +kernel
theorem dX7_cancels_8 : decode cX7_cancels 8 = .ok (.aload_n 0, 1) := by decide +kernel
theorem dX7_cancels_9 : decode cX7_cancels 9 = .ok (.aload_n 0, 1) := by decide +kernel
theorem dX7_cancels_10 : decode cX7_cancels 10 = .ok (.getfield 7, 3) := by decide +kernel
theorem dX7_cancels_13 : decode cX7_cancels 13 = .ok (.iload_n 1, 1) := by decide +kernel
theorem dX7_cancels_14 : decode cX7_cancels 14 = .ok (.bipush 11, 2) := by decide +kernel
theorem dX7_cancels_16 : decode cX7_cancels 16 = .ok (.invokestatic 40, 3) := by decide +kernel
theorem dX7_cancels_19 : decode cX7_cancels 19 = .ok (.iaload, 1) := by decide +kernel
theorem dX7_cancels_20 : decode cX7_cancels 20 = .ok (.invokevirtual 66, 3) := by decide +kernel
theorem dX7_cancels_23 : decode cX7_cancels 23 = .ok (.goto (-23), 3) := by decide +kernel
theorem dX7_cancels_26 : decode cX7_cancels 26 = .ok (.aload_n 0, 1) := by decide +kernel
theorem dX7_cancels_27 : decode cX7_cancels 27 = .ok (.getfield 7, 3) := by decide +kernel
theorem dX7_cancels_30 : decode cX7_cancels 30 = .ok (.iload_n 1, 1) := by decide +kernel
theorem dX7_cancels_31 : decode cX7_cancels 31 = .ok (.bipush 6, 2) := by decide +kernel
theorem dX7_cancels_33 : decode cX7_cancels 33 = .ok (.invokestatic 40, 3) := by decide +kernel
theorem dX7_cancels_36 : decode cX7_cancels 36 = .ok (.iconst 2, 1) := by decide +kernel
theorem dX7_cancels_37 : decode cX7_cancels 37 = .ok (.iastore, 1) := by decide +kernel
theorem dX7_cancels_38 : decode cX7_cancels 38 = .ok (.aload_n 0, 1) := by decide +kernel
theorem dX7_cancels_39 : decode cX7_cancels 39 = .ok (.getfield 7, 3) := by decide +kernel
theorem dX7_cancels_42 : decode cX7_cancels 42 = .ok (.iload_n 1, 1) := by decide +kernel
theorem dX7_cancels_43 : decode cX7_cancels 43 = .ok (.bipush 9, 2) := by decide +kernel
theorem dX7_cancels_45 : decode cX7_cancels 45 = .ok (.invokestatic 40, 3) := by decide +kernel
theorem dX7_cancels_48 : decode cX7_cancels 48 = .ok (.iload_n 2, 1) := by decide +kernel
theorem dX7_cancels_49 : decode cX7_cancels 49 = .ok (.iastore, 1) := by decide +kernel
theorem dX7_cancels_50 : decode cX7_cancels 50 = .ok (.aload_n 0, 1) := by decide +kernel
theorem dX7_cancels_51 : decode cX7_cancels 51 = .ok (.getfield 7, 3) := by decide +kernel
theorem dX7_cancels_54 : decode cX7_cancels 54 = .ok (.sipush 553, 3) := by decide +kernel
theorem dX7_cancels_57 : decode cX7_cancels 57 = .ok (.dup2, 1) := by decide +kernel
theorem dX7_cancels_58 : decode cX7_cancels 58 = .ok (.iaload, 1) := by decide +kernel
theorem dX7_cancels_59 : decode cX7_cancels 59 = .ok (.iconst 1, 1) := by decide +kernel
theorem dX7_cancels_60 : decode cX7_cancels 60 = .ok (.iadd, 1) := by decide +kernel
theorem dX7_cancels_61 : decode cX7_cancels 61 = .ok (.iastore, 1) := by decide +kernel
theorem dX7_cancels_62 : decode cX7_cancels 62 = .ok (.return_, 1) := by decide +kernel
theorem dX7_levelsApart_0 : decode cX7_levelsApart 0 = .ok (.aload_n 0, 1) := by decide +kernel
theorem dX7_levelsApart_1 : decode cX7_levelsApart 1 = .ok (.getfield 7, 3) := by decide +kernel
theorem dX7_levelsApart_4 : decode cX7_levelsApart 4 = .ok (.iload_n 1, 1) := by decide +kernel
theorem dX7_levelsApart_5 : decode cX7_levelsApart 5 = .ok (.iconst 1, 1) := by decide +kernel
theorem dX7_levelsApart_6 : decode cX7_levelsApart 6 = .ok (.invokestatic 40, 3) := by decide +kernel
theorem dX7_levelsApart_9 : decode cX7_levelsApart 9 = .ok (.iaload, 1) := by decide +kernel
theorem dX7_levelsApart_10 : decode cX7_levelsApart 10 = .ok (.aload_n 0, 1) := by decide +kernel
theorem dX7_levelsApart_11 : decode cX7_levelsApart 11 = .ok (.getfield 7, 3) := by decide +kernel
theorem dX7_levelsApart_14 : decode cX7_levelsApart 14 = .ok (.iload_n 2, 1) := by decide +kernel
theorem dX7_levelsApart_15 : decode cX7_levelsApart 15 = .ok (.iconst 1, 1) := by decide +kernel
theorem dX7_levelsApart_16 : decode cX7_levelsApart 16 = .ok (.invokestatic 40, 3) := by decide +kernel
theorem dX7_levelsApart_19 : decode cX7_levelsApart 19 = .ok (.iaload, 1) := by decide +kernel
theorem dX7_levelsApart_20 : decode cX7_levelsApart 20 = .ok (.isub, 1) := by decide +kernel
theorem dX7_levelsApart_21 : decode cX7_levelsApart 21 = .ok (.istore_n 3, 1) := by decide +kernel
theorem dX7_levelsApart_22 : decode cX7_levelsApart 22 = .ok (.iload_n 3, 1) := by decide +kernel
theorem dX7_levelsApart_23 : decode cX7_levelsApart 23 = .ok (.ifCond .ge 8, 3) := by decide +kernel
theorem dX7_levelsApart_26 : decode cX7_levelsApart 26 = .ok (.iload_n 3, 1) := by decide +kernel
theorem dX7_levelsApart_27 : decode cX7_levelsApart 27 = .ok (.ineg, 1) := by decide +kernel
theorem dX7_levelsApart_28 : decode cX7_levelsApart 28 = .ok (.goto 4, 3) := by decide +kernel
theorem dX7_levelsApart_31 : decode cX7_levelsApart 31 = .ok (.iload_n 3, 1) := by decide +kernel
theorem dX7_levelsApart_32 : decode cX7_levelsApart 32 = .ok (.ireturn, 1) := by decide +kernel
theorem dX7_fitting_0 : decode cX7_fitting 0 = .ok (.iconst (-1), 1) := by decide +kernel
theorem dX7_fitting_1 : decode cX7_fitting 1 = .ok (.istore_n 2, 1) := by decide +kernel
theorem dX7_fitting_2 : decode cX7_fitting 2 = .ok (.iconst 0, 1) := by decide +kernel
theorem dX7_fitting_3 : decode cX7_fitting 3 = .ok (.istore_n 3, 1) := by decide +kernel
theorem dX7_fitting_4 : decode cX7_fitting 4 = .ok (.iload_n 3, 1) := by decide +kernel
theorem dX7_fitting_5 : decode cX7_fitting 5 = .ok (.aload_n 0, 1) := by decide +kernel
theorem dX7_fitting_6 : decode cX7_fitting 6 = .ok (.getfield 7, 3) := by decide +kernel
theorem dX7_fitting_9 : decode cX7_fitting 9 = .ok (.iconst 0, 1) := by decide +kernel
theorem dX7_fitting_10 : decode cX7_fitting 10 = .ok (.iaload, 1) := by decide +kernel
theorem dX7_fitting_11 : decode cX7_fitting 11 = .ok (.if_icmp .ge 163, 3) := by decide +kernel
theorem dX7_fitting_14 : decode cX7_fitting 14 = .ok (.aload_n 0, 1) := by decide +kernel
theorem dX7_fitting_15 : decode cX7_fitting 15 = .ok (.iload_n 1, 1) := by decide +kernel
theorem dX7_fitting_16 : decode cX7_fitting 16 = .ok (.invokevirtual 47, 3) := by decide +kernel
theorem dX7_fitting_19 : decode cX7_fitting 19 = .ok (.ifCond .le 155, 3) := by decide +kernel
theorem dX7_fitting_22 : decode cX7_fitting 22 = .ok (.iload_n 3, 1) := by decide +kernel
theorem dX7_fitting_23 : decode cX7_fitting 23 = .ok (.iload_n 1, 1) := by decide +kernel
theorem dX7_fitting_24 : decode cX7_fitting 24 = .ok (.if_icmp .eq 72, 3) := by decide +kernel
theorem dX7_fitting_27 : decode cX7_fitting 27 = .ok (.aload_n 0, 1) := by decide +kernel
theorem dX7_fitting_28 : decode cX7_fitting 28 = .ok (.iload_n 3, 1) := by decide +kernel
theorem dX7_fitting_29 : decode cX7_fitting 29 = .ok (.invokevirtual 43, 3) := by decide +kernel
theorem dX7_fitting_32 : decode cX7_fitting 32 = .ok (.ifCond .eq 64, 3) := by decide +kernel
theorem dX7_fitting_35 : decode cX7_fitting 35 = .ok (.aload_n 0, 1) := by decide +kernel
theorem dX7_fitting_36 : decode cX7_fitting 36 = .ok (.getfield 7, 3) := by decide +kernel
theorem dX7_fitting_39 : decode cX7_fitting 39 = .ok (.iload_n 3, 1) := by decide +kernel
theorem dX7_fitting_40 : decode cX7_fitting 40 = .ok (.iconst 0, 1) := by decide +kernel
theorem dX7_fitting_41 : decode cX7_fitting 41 = .ok (.invokestatic 40, 3) := by decide +kernel
theorem dX7_fitting_44 : decode cX7_fitting 44 = .ok (.iaload, 1) := by decide +kernel
theorem dX7_fitting_45 : decode cX7_fitting 45 = .ok (.aload_n 0, 1) := by decide +kernel
theorem dX7_fitting_46 : decode cX7_fitting 46 = .ok (.getfield 7, 3) := by decide +kernel
theorem dX7_fitting_49 : decode cX7_fitting 49 = .ok (.iload_n 1, 1) := by decide +kernel
theorem dX7_fitting_50 : decode cX7_fitting 50 = .ok (.iconst 0, 1) := by decide +kernel
theorem dX7_fitting_51 : decode cX7_fitting 51 = .ok (.invokestatic 40, 3) := by decide +kernel
theorem dX7_fitting_54 : decode cX7_fitting 54 = .ok (.iaload, 1) := by decide +kernel
theorem dX7_fitting_55 : decode cX7_fitting 55 = .ok (.if_icmp .ne 41, 3) := by decide +kernel
theorem dX7_fitting_58 : decode cX7_fitting 58 = .ok (.aload_n 0, 1) := by decide +kernel
theorem dX7_fitting_59 : decode cX7_fitting 59 = .ok (.iload_n 3, 1) := by decide +kernel
theorem dX7_fitting_60 : decode cX7_fitting 60 = .ok (.iload_n 1, 1) := by decide +kernel
theorem dX7_fitting_61 : decode cX7_fitting 61 = .ok (.invokevirtual 74, 3) := by decide +kernel
theorem dX7_fitting_64 : decode cX7_fitting 64 = .ok (.iconst 2, 1) := by decide +kernel
theorem dX7_fitting_65 : decode cX7_fitting 65 = .ok (.if_icmp .ge 31, 3) := by decide +kernel
theorem dX7_fitting_68 : decode cX7_fitting 68 = .ok (.aload_n 0, 1) := by decide +kernel
theorem dX7_fitting_69 : decode cX7_fitting 69 = .ok (.iload_n 3, 1) := by decide +kernel
theorem dX7_fitting_70 : decode cX7_fitting 70 = .ok (.invokevirtual 47, 3) := by decide +kernel
theorem dX7_fitting_73 : decode cX7_fitting 73 = .ok (.aload_n 0, 1) := by decide +kernel
theorem dX7_fitting_74 : decode cX7_fitting 74 = .ok (.iload_n 1, 1) := by decide +kernel
theorem dX7_fitting_75 : decode cX7_fitting 75 = .ok (.invokevirtual 47, 3) := by decide +kernel
theorem dX7_fitting_78 : decode cX7_fitting 78 = .ok (.iadd, 1) := by decide +kernel
theorem dX7_fitting_79 : decode cX7_fitting 79 = .ok (.aload_n 0, 1) := by decide +kernel
theorem dX7_fitting_80 : decode cX7_fitting 80 = .ok (.getfield 7, 3) := by decide +kernel
theorem dX7_fitting_83 : decode cX7_fitting 83 = .ok (.iload_n 3, 1) := by decide +kernel
theorem dX7_fitting_84 : decode cX7_fitting 84 = .ok (.iconst 4, 1) := by decide +kernel
theorem dX7_fitting_85 : decode cX7_fitting 85 = .ok (.invokestatic 40, 3) := by decide +kernel
theorem dX7_fitting_88 : decode cX7_fitting 88 = .ok (.iaload, 1) := by decide +kernel
theorem dX7_fitting_89 : decode cX7_fitting 89 = .ok (.if_icmp .gt 7, 3) := by decide +kernel
theorem dX7_fitting_92 : decode cX7_fitting 92 = .ok (.iconst 1, 1) := by decide +kernel
theorem dX7_fitting_93 : decode cX7_fitting 93 = .ok (.goto 4, 3) := by decide +kernel
theorem dX7_fitting_96 : decode cX7_fitting 96 = .ok (.iconst 0, 1) := by decide +kernel
theorem dX7_fitting_97 : decode cX7_fitting 97 = .ok (.istore 4, 2) := by decide +kernel
theorem dX7_fitting_99 : decode cX7_fitting 99 = .ok (.iload_n 2, 1) := by decide +kernel
theorem dX7_fitting_100 : decode cX7_fitting 100 = .ok (.ifCond .ge 7, 3) := by decide +kernel
theorem dX7_fitting_103 : decode cX7_fitting 103 = .ok (.iconst 1, 1) := by decide +kernel
theorem dX7_fitting_104 : decode cX7_fitting 104 = .ok (.goto 16, 3) := by decide +kernel
theorem dX7_fitting_107 : decode cX7_fitting 107 = .ok (.aload_n 0, 1) := by decide +kernel
theorem dX7_fitting_108 : decode cX7_fitting 108 = .ok (.iload_n 2, 1) := by decide +kernel
theorem dX7_fitting_109 : decode cX7_fitting 109 = .ok (.iload_n 1, 1) := by decide +kernel
theorem dX7_fitting_110 : decode cX7_fitting 110 = .ok (.invokevirtual 74, 3) := by decide +kernel
theorem dX7_fitting_113 : decode cX7_fitting 113 = .ok (.aload_n 0, 1) := by decide +kernel
theorem dX7_fitting_114 : decode cX7_fitting 114 = .ok (.iload_n 3, 1) := by decide +kernel
theorem dX7_fitting_115 : decode cX7_fitting 115 = .ok (.iload_n 1, 1) := by decide +kernel
theorem dX7_fitting_116 : decode cX7_fitting 116 = .ok (.invokevirtual 74, 3) := by decide +kernel
theorem dX7_fitting_119 : decode cX7_fitting 119 = .ok (.isub, 1) := by decide +kernel
theorem dX7_fitting_120 : decode cX7_fitting 120 = .ok (.istore 5, 2) := by decide +kernel
theorem dX7_fitting_122 : decode cX7_fitting 122 = .ok (.iload 5, 2) := by decide +kernel
theorem dX7_fitting_124 : decode cX7_fitting 124 = .ok (.ifCond .gt 21, 3) := by decide +kernel
theorem dX7_fitting_127 : decode cX7_fitting 127 = .ok (.iload 5, 2) := by decide +kernel
theorem dX7_fitting_129 : decode cX7_fitting 129 = .ok (.ifCond .ne 20, 3) := by decide +kernel
theorem dX7_fitting_132 : decode cX7_fitting 132 = .ok (.aload_n 0, 1) := by decide +kernel
theorem dX7_fitting_133 : decode cX7_fitting 133 = .ok (.iload_n 3, 1) := by decide +kernel
theorem dX7_fitting_134 : decode cX7_fitting 134 = .ok (.invokevirtual 47, 3) := by decide +kernel
theorem dX7_fitting_137 : decode cX7_fitting 137 = .ok (.aload_n 0, 1) := by decide +kernel
theorem dX7_fitting_138 : decode cX7_fitting 138 = .ok (.iload_n 2, 1) := by decide +kernel
theorem dX7_fitting_139 : decode cX7_fitting 139 = .ok (.invokevirtual 47, 3) := by decide +kernel
theorem dX7_fitting_142 : decode cX7_fitting 142 = .ok (.if_icmp .le 7, 3) := by decide +kernel
theorem dX7_fitting_145 : decode cX7_fitting 145 = .ok (.iconst 1, 1) := by decide +kernel
theorem dX7_fitting_146 : decode cX7_fitting 146 = .ok (.goto 4, 3) := by decide +kernel
theorem dX7_fitting_149 : decode cX7_fitting 149 = .ok (.iconst 0, 1) := by decide +kernel
theorem dX7_fitting_150 : decode cX7_fitting 150 = .ok (.istore 6, 2) := by decide +kernel
theorem dX7_fitting_152 : decode cX7_fitting 152 = .ok (.iload 4, 2) := by decide +kernel
theorem dX7_fitting_154 : decode cX7_fitting 154 = .ok (.ifCond .eq 12, 3) := by decide +kernel
theorem dX7_fitting_157 : decode cX7_fitting 157 = .ok (.iload 6, 2) := by decide +kernel
theorem dX7_fitting_159 : decode cX7_fitting 159 = .ok (.ifCond .eq 7, 3) := by decide +kernel
theorem dX7_fitting_162 : decode cX7_fitting 162 = .ok (.iload_n 3, 1) := by decide +kernel
theorem dX7_fitting_163 : decode cX7_fitting 163 = .ok (.goto 4, 3) := by decide +kernel
theorem dX7_fitting_166 : decode cX7_fitting 166 = .ok (.iload_n 2, 1) := by decide +kernel
theorem dX7_fitting_167 : decode cX7_fitting 167 = .ok (.istore_n 2, 1) := by decide +kernel
theorem dX7_fitting_168 : decode cX7_fitting 168 = .ok (.iinc 3 1, 3) := by decide +kernel
theorem dX7_fitting_171 : decode cX7_fitting 171 = .ok (.goto (-167), 3) := by decide +kernel
theorem dX7_fitting_174 : decode cX7_fitting 174 = .ok (.iload_n 2, 1) := by decide +kernel
theorem dX7_fitting_175 : decode cX7_fitting 175 = .ok (.ireturn, 1) := by decide +kernel
theorem dX7_merges_0 : decode cX7_merges 0 = .ok (.aload_n 0, 1) := by decide +kernel
theorem dX7_merges_1 : decode cX7_merges 1 = .ok (.iload_n 1, 1) := by decide +kernel
theorem dX7_merges_2 : decode cX7_merges 2 = .ok (.invokevirtual 47, 3) := by decide +kernel
theorem dX7_merges_5 : decode cX7_merges 5 = .ok (.istore_n 3, 1) := by decide +kernel
theorem dX7_merges_6 : decode cX7_merges 6 = .ok (.iconst 0, 1) := by decide +kernel
theorem dX7_merges_7 : decode cX7_merges 7 = .ok (.istore 4, 2) := by decide +kernel
theorem dX7_merges_9 : decode cX7_merges 9 = .ok (.iload 4, 2) := by decide +kernel
theorem dX7_merges_11 : decode cX7_merges 11 = .ok (.iload_n 3, 1) := by decide +kernel
theorem dX7_merges_12 : decode cX7_merges 12 = .ok (.if_icmp .ge 103, 3) := by decide +kernel
theorem dX7_merges_15 : decode cX7_merges 15 = .ok (.aload_n 0, 1) := by decide +kernel
theorem dX7_merges_16 : decode cX7_merges 16 = .ok (.getfield 7, 3) := by decide +kernel
theorem dX7_merges_19 : decode cX7_merges 19 = .ok (.iload_n 1, 1) := by decide +kernel
theorem dX7_merges_20 : decode cX7_merges 20 = .ok (.bipush 11, 2) := by decide +kernel
theorem dX7_merges_22 : decode cX7_merges 22 = .ok (.iload 4, 2) := by decide +kernel
theorem dX7_merges_24 : decode cX7_merges 24 = .ok (.iadd, 1) := by decide +kernel
theorem dX7_merges_25 : decode cX7_merges 25 = .ok (.invokestatic 40, 3) := by decide +kernel
theorem dX7_merges_28 : decode cX7_merges 28 = .ok (.iaload, 1) := by decide +kernel
theorem dX7_merges_29 : decode cX7_merges 29 = .ok (.istore 5, 2) := by decide +kernel
theorem dX7_merges_31 : decode cX7_merges 31 = .ok (.aload_n 0, 1) := by decide +kernel
theorem dX7_merges_32 : decode cX7_merges 32 = .ok (.iload 5, 2) := by decide +kernel
theorem dX7_merges_34 : decode cX7_merges 34 = .ok (.iload_n 2, 1) := by decide +kernel
theorem dX7_merges_35 : decode cX7_merges 35 = .ok (.invokevirtual 70, 3) := by decide +kernel
theorem dX7_merges_38 : decode cX7_merges 38 = .ok (.aload_n 0, 1) := by decide +kernel
theorem dX7_merges_39 : decode cX7_merges 39 = .ok (.getfield 7, 3) := by decide +kernel
theorem dX7_merges_42 : decode cX7_merges 42 = .ok (.iload 5, 2) := by decide +kernel
theorem dX7_merges_44 : decode cX7_merges 44 = .ok (.iconst 5, 1) := by decide +kernel
theorem dX7_merges_45 : decode cX7_merges 45 = .ok (.invokestatic 36, 3) := by decide +kernel
theorem dX7_merges_48 : decode cX7_merges 48 = .ok (.iaload, 1) := by decide +kernel
theorem dX7_merges_49 : decode cX7_merges 49 = .ok (.aload_n 0, 1) := by decide +kernel
theorem dX7_merges_50 : decode cX7_merges 50 = .ok (.getfield 7, 3) := by decide +kernel
theorem dX7_merges_53 : decode cX7_merges 53 = .ok (.iload_n 2, 1) := by decide +kernel
theorem dX7_merges_54 : decode cX7_merges 54 = .ok (.iconst 5, 1) := by decide +kernel
theorem dX7_merges_55 : decode cX7_merges 55 = .ok (.invokestatic 40, 3) := by decide +kernel
theorem dX7_merges_58 : decode cX7_merges 58 = .ok (.iaload, 1) := by decide +kernel
theorem dX7_merges_59 : decode cX7_merges 59 = .ok (.isub, 1) := by decide +kernel
theorem dX7_merges_60 : decode cX7_merges 60 = .ok (.istore 6, 2) := by decide +kernel
theorem dX7_merges_62 : decode cX7_merges 62 = .ok (.aload_n 0, 1) := by decide +kernel
theorem dX7_merges_63 : decode cX7_merges 63 = .ok (.getfield 7, 3) := by decide +kernel
theorem dX7_merges_66 : decode cX7_merges 66 = .ok (.sipush 549, 3) := by decide +kernel
theorem dX7_merges_69 : decode cX7_merges 69 = .ok (.dup2, 1) := by decide +kernel
theorem dX7_merges_70 : decode cX7_merges 70 = .ok (.iaload, 1) := by decide +kernel
theorem dX7_merges_71 : decode cX7_merges 71 = .ok (.iload 6, 2) := by decide +kernel
theorem dX7_merges_73 : decode cX7_merges 73 = .ok (.ifCond .le 8, 3) := by decide +kernel
theorem dX7_merges_76 : decode cX7_merges 76 = .ok (.iload 6, 2) := by decide +kernel
theorem dX7_merges_78 : decode cX7_merges 78 = .ok (.goto 4, 3) := by decide +kernel
theorem dX7_merges_81 : decode cX7_merges 81 = .ok (.iconst 0, 1) := by decide +kernel
theorem dX7_merges_82 : decode cX7_merges 82 = .ok (.iadd, 1) := by decide +kernel
theorem dX7_merges_83 : decode cX7_merges 83 = .ok (.iastore, 1) := by decide +kernel
theorem dX7_merges_84 : decode cX7_merges 84 = .ok (.aload_n 0, 1) := by decide +kernel
theorem dX7_merges_85 : decode cX7_merges 85 = .ok (.getfield 7, 3) := by decide +kernel
theorem dX7_merges_88 : decode cX7_merges 88 = .ok (.iload 5, 2) := by decide +kernel
theorem dX7_merges_90 : decode cX7_merges 90 = .ok (.iconst 5, 1) := by decide +kernel
theorem dX7_merges_91 : decode cX7_merges 91 = .ok (.invokestatic 36, 3) := by decide +kernel
theorem dX7_merges_94 : decode cX7_merges 94 = .ok (.dup2, 1) := by decide +kernel
theorem dX7_merges_95 : decode cX7_merges 95 = .ok (.iaload, 1) := by decide +kernel
theorem dX7_merges_96 : decode cX7_merges 96 = .ok (.iload 6, 2) := by decide +kernel
theorem dX7_merges_98 : decode cX7_merges 98 = .ok (.ifCond .le 8, 3) := by decide +kernel
theorem dX7_merges_101 : decode cX7_merges 101 = .ok (.iload 6, 2) := by decide +kernel
theorem dX7_merges_103 : decode cX7_merges 103 = .ok (.goto 4, 3) := by decide +kernel
theorem dX7_merges_106 : decode cX7_merges 106 = .ok (.iconst 0, 1) := by decide +kernel
theorem dX7_merges_107 : decode cX7_merges 107 = .ok (.isub, 1) := by decide +kernel
theorem dX7_merges_108 : decode cX7_merges 108 = .ok (.iastore, 1) := by decide +kernel
theorem dX7_merges_109 : decode cX7_merges 109 = .ok (.iinc 4 1, 3) := by decide +kernel
theorem dX7_merges_112 : decode cX7_merges 112 = .ok (.goto (-103), 3) := by decide +kernel
theorem dX7_merges_115 : decode cX7_merges 115 = .ok (.aload_n 0, 1) := by decide +kernel
theorem dX7_merges_116 : decode cX7_merges 116 = .ok (.getfield 7, 3) := by decide +kernel
theorem dX7_merges_119 : decode cX7_merges 119 = .ok (.iload_n 1, 1) := by decide +kernel
theorem dX7_merges_120 : decode cX7_merges 120 = .ok (.bipush 10, 2) := by decide +kernel
theorem dX7_merges_122 : decode cX7_merges 122 = .ok (.invokestatic 40, 3) := by decide +kernel
theorem dX7_merges_125 : decode cX7_merges 125 = .ok (.iconst 0, 1) := by decide +kernel
theorem dX7_merges_126 : decode cX7_merges 126 = .ok (.iastore, 1) := by decide +kernel
theorem dX7_merges_127 : decode cX7_merges 127 = .ok (.aload_n 0, 1) := by decide +kernel
theorem dX7_merges_128 : decode cX7_merges 128 = .ok (.getfield 7, 3) := by decide +kernel
theorem dX7_merges_131 : decode cX7_merges 131 = .ok (.iload_n 1, 1) := by decide +kernel
theorem dX7_merges_132 : decode cX7_merges 132 = .ok (.bipush 6, 2) := by decide +kernel
theorem dX7_merges_134 : decode cX7_merges 134 = .ok (.invokestatic 40, 3) := by decide +kernel
theorem dX7_merges_137 : decode cX7_merges 137 = .ok (.iconst 3, 1) := by decide +kernel
theorem dX7_merges_138 : decode cX7_merges 138 = .ok (.iastore, 1) := by decide +kernel
theorem dX7_merges_139 : decode cX7_merges 139 = .ok (.aload_n 0, 1) := by decide +kernel
theorem dX7_merges_140 : decode cX7_merges 140 = .ok (.getfield 7, 3) := by decide +kernel
theorem dX7_merges_143 : decode cX7_merges 143 = .ok (.iload_n 1, 1) := by decide +kernel
theorem dX7_merges_144 : decode cX7_merges 144 = .ok (.bipush 8, 2) := by decide +kernel
theorem dX7_merges_146 : decode cX7_merges 146 = .ok (.invokestatic 40, 3) := by decide +kernel
theorem dX7_merges_149 : decode cX7_merges 149 = .ok (.iload_n 2, 1) := by decide +kernel
theorem dX7_merges_150 : decode cX7_merges 150 = .ok (.iastore, 1) := by decide +kernel
theorem dX7_merges_151 : decode cX7_merges 151 = .ok (.aload_n 0, 1) := by decide +kernel
theorem dX7_merges_152 : decode cX7_merges 152 = .ok (.getfield 7, 3) := by decide +kernel
theorem dX7_merges_155 : decode cX7_merges 155 = .ok (.iload_n 1, 1) := by decide +kernel
theorem dX7_merges_156 : decode cX7_merges 156 = .ok (.bipush 9, 2) := by decide +kernel
theorem dX7_merges_158 : decode cX7_merges 158 = .ok (.invokestatic 40, 3) := by decide +kernel
theorem dX7_merges_161 : decode cX7_merges 161 = .ok (.iconst 1, 1) := by decide +kernel
theorem dX7_merges_162 : decode cX7_merges 162 = .ok (.iastore, 1) := by decide +kernel
theorem dX7_merges_163 : decode cX7_merges 163 = .ok (.aload_n 0, 1) := by decide +kernel
theorem dX7_merges_164 : decode cX7_merges 164 = .ok (.getfield 7, 3) := by decide +kernel
theorem dX7_merges_167 : decode cX7_merges 167 = .ok (.sipush 552, 3) := by decide +kernel
theorem dX7_merges_170 : decode cX7_merges 170 = .ok (.dup2, 1) := by decide +kernel
theorem dX7_merges_171 : decode cX7_merges 171 = .ok (.iaload, 1) := by decide +kernel
theorem dX7_merges_172 : decode cX7_merges 172 = .ok (.iconst 1, 1) := by decide +kernel
theorem dX7_merges_173 : decode cX7_merges 173 = .ok (.iadd, 1) := by decide +kernel
theorem dX7_merges_174 : decode cX7_merges 174 = .ok (.iastore, 1) := by decide +kernel
theorem dX7_merges_175 : decode cX7_merges 175 = .ok (.return_, 1) := by decide +kernel
theorem dX7_smallest_0 : decode cX7_smallest 0 = .ok (.iconst (-1), 1) := by decide +kernel
theorem dX7_smallest_1 : decode cX7_smallest 1 = .ok (.istore_n 1, 1) := by decide +kernel
theorem dX7_smallest_2 : decode cX7_smallest 2 = .ok (.iconst 0, 1) := by decide +kernel
theorem dX7_smallest_3 : decode cX7_smallest 3 = .ok (.istore_n 2, 1) := by decide +kernel
theorem dX7_smallest_4 : decode cX7_smallest 4 = .ok (.iload_n 2, 1) := by decide +kernel
theorem dX7_smallest_5 : decode cX7_smallest 5 = .ok (.aload_n 0, 1) := by decide +kernel
theorem dX7_smallest_6 : decode cX7_smallest 6 = .ok (.getfield 7, 3) := by decide +kernel
theorem dX7_smallest_9 : decode cX7_smallest 9 = .ok (.iconst 0, 1) := by decide +kernel
theorem dX7_smallest_10 : decode cX7_smallest 10 = .ok (.iaload, 1) := by decide +kernel
theorem dX7_smallest_11 : decode cX7_smallest 11 = .ok (.if_icmp .ge 68, 3) := by decide +kernel
theorem dX7_smallest_14 : decode cX7_smallest 14 = .ok (.aload_n 0, 1) := by decide +kernel
theorem dX7_smallest_15 : decode cX7_smallest 15 = .ok (.iload_n 2, 1) := by decide +kernel
theorem dX7_smallest_16 : decode cX7_smallest 16 = .ok (.invokevirtual 43, 3) := by decide +kernel
theorem dX7_smallest_19 : decode cX7_smallest 19 = .ok (.ifCond .eq 25, 3) := by decide +kernel
theorem dX7_smallest_22 : decode cX7_smallest 22 = .ok (.aload_n 0, 1) := by decide +kernel
theorem dX7_smallest_23 : decode cX7_smallest 23 = .ok (.iload_n 2, 1) := by decide +kernel
theorem dX7_smallest_24 : decode cX7_smallest 24 = .ok (.invokevirtual 47, 3) := by decide +kernel
theorem dX7_smallest_27 : decode cX7_smallest 27 = .ok (.aload_n 0, 1) := by decide +kernel
theorem dX7_smallest_28 : decode cX7_smallest 28 = .ok (.getfield 7, 3) := by decide +kernel
theorem dX7_smallest_31 : decode cX7_smallest 31 = .ok (.iload_n 2, 1) := by decide +kernel
theorem dX7_smallest_32 : decode cX7_smallest 32 = .ok (.iconst 3, 1) := by decide +kernel
theorem dX7_smallest_33 : decode cX7_smallest 33 = .ok (.invokestatic 40, 3) := by decide +kernel
theorem dX7_smallest_36 : decode cX7_smallest 36 = .ok (.iaload, 1) := by decide +kernel
theorem dX7_smallest_37 : decode cX7_smallest 37 = .ok (.if_icmp .ge 7, 3) := by decide +kernel
theorem dX7_smallest_40 : decode cX7_smallest 40 = .ok (.iconst 1, 1) := by decide +kernel
theorem dX7_smallest_41 : decode cX7_smallest 41 = .ok (.goto 4, 3) := by decide +kernel
theorem dX7_smallest_44 : decode cX7_smallest 44 = .ok (.iconst 0, 1) := by decide +kernel
theorem dX7_smallest_45 : decode cX7_smallest 45 = .ok (.istore_n 3, 1) := by decide +kernel
theorem dX7_smallest_46 : decode cX7_smallest 46 = .ok (.iload_n 3, 1) := by decide +kernel
theorem dX7_smallest_47 : decode cX7_smallest 47 = .ok (.ifCond .eq 24, 3) := by decide +kernel
theorem dX7_smallest_50 : decode cX7_smallest 50 = .ok (.iload_n 1, 1) := by decide +kernel
theorem dX7_smallest_51 : decode cX7_smallest 51 = .ok (.ifCond .lt 16, 3) := by decide +kernel
theorem dX7_smallest_54 : decode cX7_smallest 54 = .ok (.aload_n 0, 1) := by decide +kernel
theorem dX7_smallest_55 : decode cX7_smallest 55 = .ok (.iload_n 2, 1) := by decide +kernel
theorem dX7_smallest_56 : decode cX7_smallest 56 = .ok (.invokevirtual 47, 3) := by decide +kernel
theorem dX7_smallest_59 : decode cX7_smallest 59 = .ok (.aload_n 0, 1) := by decide +kernel
theorem dX7_smallest_60 : decode cX7_smallest 60 = .ok (.iload_n 1, 1) := by decide +kernel
theorem dX7_smallest_61 : decode cX7_smallest 61 = .ok (.invokevirtual 47, 3) := by decide +kernel
theorem dX7_smallest_64 : decode cX7_smallest 64 = .ok (.if_icmp .ge 7, 3) := by decide +kernel
theorem dX7_smallest_67 : decode cX7_smallest 67 = .ok (.iload_n 2, 1) := by decide +kernel
theorem dX7_smallest_68 : decode cX7_smallest 68 = .ok (.goto 4, 3) := by decide +kernel
theorem dX7_smallest_71 : decode cX7_smallest 71 = .ok (.iload_n 1, 1) := by decide +kernel
theorem dX7_smallest_72 : decode cX7_smallest 72 = .ok (.istore_n 1, 1) := by decide +kernel
theorem dX7_smallest_73 : decode cX7_smallest 73 = .ok (.iinc 2 1, 3) := by decide +kernel
theorem dX7_smallest_76 : decode cX7_smallest 76 = .ok (.goto (-72), 3) := by decide +kernel
theorem dX7_smallest_79 : decode cX7_smallest 79 = .ok (.iload_n 1, 1) := by decide +kernel
theorem dX7_smallest_80 : decode cX7_smallest 80 = .ok (.ireturn, 1) := by decide +kernel
theorem dX7_greatest_0 : decode cX7_greatest 0 = .ok (.iconst (-1), 1) := by decide +kernel
theorem dX7_greatest_1 : decode cX7_greatest 1 = .ok (.istore_n 1, 1) := by decide +kernel
theorem dX7_greatest_2 : decode cX7_greatest 2 = .ok (.iconst 0, 1) := by decide +kernel
theorem dX7_greatest_3 : decode cX7_greatest 3 = .ok (.istore_n 2, 1) := by decide +kernel
theorem dX7_greatest_4 : decode cX7_greatest 4 = .ok (.iload_n 2, 1) := by decide +kernel
theorem dX7_greatest_5 : decode cX7_greatest 5 = .ok (.aload_n 0, 1) := by decide +kernel
theorem dX7_greatest_6 : decode cX7_greatest 6 = .ok (.getfield 7, 3) := by decide +kernel
theorem dX7_greatest_9 : decode cX7_greatest 9 = .ok (.iconst 0, 1) := by decide +kernel
theorem dX7_greatest_10 : decode cX7_greatest 10 = .ok (.iaload, 1) := by decide +kernel
theorem dX7_greatest_11 : decode cX7_greatest 11 = .ok (.if_icmp .ge 40, 3) := by decide +kernel
theorem dX7_greatest_14 : decode cX7_greatest 14 = .ok (.aload_n 0, 1) := by decide +kernel
theorem dX7_greatest_15 : decode cX7_greatest 15 = .ok (.iload_n 2, 1) := by decide +kernel
theorem dX7_greatest_16 : decode cX7_greatest 16 = .ok (.invokevirtual 43, 3) := by decide +kernel
theorem dX7_greatest_19 : decode cX7_greatest 19 = .ok (.ifCond .eq 24, 3) := by decide +kernel
theorem dX7_greatest_22 : decode cX7_greatest 22 = .ok (.iload_n 1, 1) := by decide +kernel
theorem dX7_greatest_23 : decode cX7_greatest 23 = .ok (.ifCond .lt 16, 3) := by decide +kernel
theorem dX7_greatest_26 : decode cX7_greatest 26 = .ok (.aload_n 0, 1) := by decide +kernel
theorem dX7_greatest_27 : decode cX7_greatest 27 = .ok (.iload_n 2, 1) := by decide +kernel
theorem dX7_greatest_28 : decode cX7_greatest 28 = .ok (.invokevirtual 47, 3) := by decide +kernel
theorem dX7_greatest_31 : decode cX7_greatest 31 = .ok (.aload_n 0, 1) := by decide +kernel
theorem dX7_greatest_32 : decode cX7_greatest 32 = .ok (.iload_n 1, 1) := by decide +kernel
theorem dX7_greatest_33 : decode cX7_greatest 33 = .ok (.invokevirtual 47, 3) := by decide +kernel
theorem dX7_greatest_36 : decode cX7_greatest 36 = .ok (.if_icmp .le 7, 3) := by decide +kernel
theorem dX7_greatest_39 : decode cX7_greatest 39 = .ok (.iload_n 2, 1) := by decide +kernel
theorem dX7_greatest_40 : decode cX7_greatest 40 = .ok (.goto 4, 3) := by decide +kernel
theorem dX7_greatest_43 : decode cX7_greatest 43 = .ok (.iload_n 1, 1) := by decide +kernel
theorem dX7_greatest_44 : decode cX7_greatest 44 = .ok (.istore_n 1, 1) := by decide +kernel
theorem dX7_greatest_45 : decode cX7_greatest 45 = .ok (.iinc 2 1, 3) := by decide +kernel
theorem dX7_greatest_48 : decode cX7_greatest 48 = .ok (.goto (-44), 3) := by decide +kernel
theorem dX7_greatest_51 : decode cX7_greatest 51 = .ok (.iload_n 1, 1) := by decide +kernel
theorem dX7_greatest_52 : decode cX7_greatest 52 = .ok (.ireturn, 1) := by decide +kernel
theorem dX7_isTaken_0 : decode cX7_isTaken 0 = .ok (.iconst 0, 1) := by decide +kernel
theorem dX7_isTaken_1 : decode cX7_isTaken 1 = .ok (.istore_n 3, 1) := by decide +kernel
theorem dX7_isTaken_2 : decode cX7_isTaken 2 = .ok (.iconst 0, 1) := by decide +kernel
theorem dX7_isTaken_3 : decode cX7_isTaken 3 = .ok (.istore 4, 2) := by decide +kernel
theorem dX7_isTaken_5 : decode cX7_isTaken 5 = .ok (.iload 4, 2) := by decide +kernel
theorem dX7_isTaken_7 : decode cX7_isTaken 7 = .ok (.aload_n 0, 1) := by decide +kernel
theorem dX7_isTaken_8 : decode cX7_isTaken 8 = .ok (.getfield 7, 3) := by decide +kernel
theorem dX7_isTaken_11 : decode cX7_isTaken 11 = .ok (.iconst 0, 1) := by decide +kernel
theorem dX7_isTaken_12 : decode cX7_isTaken 12 = .ok (.iaload, 1) := by decide +kernel
theorem dX7_isTaken_13 : decode cX7_isTaken 13 = .ok (.if_icmp .ge 50, 3) := by decide +kernel
theorem dX7_isTaken_16 : decode cX7_isTaken 16 = .ok (.iload_n 3, 1) := by decide +kernel
theorem dX7_isTaken_17 : decode cX7_isTaken 17 = .ok (.ifCond .ne 34, 3) := by decide +kernel
theorem dX7_isTaken_20 : decode cX7_isTaken 20 = .ok (.aload_n 0, 1) := by decide +kernel
theorem dX7_isTaken_21 : decode cX7_isTaken 21 = .ok (.getfield 7, 3) := by decide +kernel
theorem dX7_isTaken_24 : decode cX7_isTaken 24 = .ok (.iload 4, 2) := by decide +kernel
theorem dX7_isTaken_26 : decode cX7_isTaken 26 = .ok (.bipush 7, 2) := by decide +kernel
theorem dX7_isTaken_28 : decode cX7_isTaken 28 = .ok (.invokestatic 40, 3) := by decide +kernel
theorem dX7_isTaken_31 : decode cX7_isTaken 31 = .ok (.iaload, 1) := by decide +kernel
theorem dX7_isTaken_32 : decode cX7_isTaken 32 = .ok (.iload_n 1, 1) := by decide +kernel
theorem dX7_isTaken_33 : decode cX7_isTaken 33 = .ok (.if_icmp .ne 22, 3) := by decide +kernel
theorem dX7_isTaken_36 : decode cX7_isTaken 36 = .ok (.aload_n 0, 1) := by decide +kernel
theorem dX7_isTaken_37 : decode cX7_isTaken 37 = .ok (.getfield 7, 3) := by decide +kernel
theorem dX7_isTaken_40 : decode cX7_isTaken 40 = .ok (.iload 4, 2) := by decide +kernel
theorem dX7_isTaken_42 : decode cX7_isTaken 42 = .ok (.iconst 2, 1) := by decide +kernel
theorem dX7_isTaken_43 : decode cX7_isTaken 43 = .ok (.invokestatic 40, 3) := by decide +kernel
theorem dX7_isTaken_46 : decode cX7_isTaken 46 = .ok (.iaload, 1) := by decide +kernel
theorem dX7_isTaken_47 : decode cX7_isTaken 47 = .ok (.iload_n 2, 1) := by decide +kernel
theorem dX7_isTaken_48 : decode cX7_isTaken 48 = .ok (.if_icmp .ne 7, 3) := by decide +kernel
theorem dX7_isTaken_51 : decode cX7_isTaken 51 = .ok (.iconst 1, 1) := by decide +kernel
theorem dX7_isTaken_52 : decode cX7_isTaken 52 = .ok (.goto 4, 3) := by decide +kernel
theorem dX7_isTaken_55 : decode cX7_isTaken 55 = .ok (.iconst 0, 1) := by decide +kernel
theorem dX7_isTaken_56 : decode cX7_isTaken 56 = .ok (.istore_n 3, 1) := by decide +kernel
theorem dX7_isTaken_57 : decode cX7_isTaken 57 = .ok (.iinc 4 1, 3) := by decide +kernel
theorem dX7_isTaken_60 : decode cX7_isTaken 60 = .ok (.goto (-55), 3) := by decide +kernel
theorem dX7_isTaken_63 : decode cX7_isTaken 63 = .ok (.iload_n 3, 1) := by decide +kernel
theorem dX7_isTaken_64 : decode cX7_isTaken 64 = .ok (.ireturn, 1) := by decide +kernel
theorem dX7_roomFor_0 : decode cX7_roomFor 0 = .ok (.iconst (-1), 1) := by decide +kernel
theorem dX7_roomFor_1 : decode cX7_roomFor 1 = .ok (.istore_n 2, 1) := by decide +kernel
theorem dX7_roomFor_2 : decode cX7_roomFor 2 = .ok (.iconst 0, 1) := by decide +kernel
theorem dX7_roomFor_3 : decode cX7_roomFor 3 = .ok (.istore_n 3, 1) := by decide +kernel
theorem dX7_roomFor_4 : decode cX7_roomFor 4 = .ok (.iload_n 3, 1) := by decide +kernel
theorem dX7_roomFor_5 : decode cX7_roomFor 5 = .ok (.aload_n 0, 1) := by decide +kernel
theorem dX7_roomFor_6 : decode cX7_roomFor 6 = .ok (.getfield 7, 3) := by decide +kernel
theorem dX7_roomFor_9 : decode cX7_roomFor 9 = .ok (.sipush 329, 3) := by decide +kernel
theorem dX7_roomFor_12 : decode cX7_roomFor 12 = .ok (.iaload, 1) := by decide +kernel
theorem dX7_roomFor_13 : decode cX7_roomFor 13 = .ok (.if_icmp .ge 90, 3) := by decide +kernel
theorem dX7_roomFor_16 : decode cX7_roomFor 16 = .ok (.aload_n 0, 1) := by decide +kernel
theorem dX7_roomFor_17 : decode cX7_roomFor 17 = .ok (.getfield 7, 3) := by decide +kernel
theorem dX7_roomFor_20 : decode cX7_roomFor 20 = .ok (.sipush 330, 3) := by decide +kernel
theorem dX7_roomFor_23 : decode cX7_roomFor 23 = .ok (.iload_n 3, 1) := by decide +kernel
theorem dX7_roomFor_24 : decode cX7_roomFor 24 = .ok (.iadd, 1) := by decide +kernel
theorem dX7_roomFor_25 : decode cX7_roomFor 25 = .ok (.iaload, 1) := by decide +kernel
theorem dX7_roomFor_26 : decode cX7_roomFor 26 = .ok (.aload_n 0, 1) := by decide +kernel
theorem dX7_roomFor_27 : decode cX7_roomFor 27 = .ok (.iload_n 1, 1) := by decide +kernel
theorem dX7_roomFor_28 : decode cX7_roomFor 28 = .ok (.invokevirtual 47, 3) := by decide +kernel
theorem dX7_roomFor_31 : decode cX7_roomFor 31 = .ok (.if_icmp .lt 25, 3) := by decide +kernel
theorem dX7_roomFor_34 : decode cX7_roomFor 34 = .ok (.aload_n 0, 1) := by decide +kernel
theorem dX7_roomFor_35 : decode cX7_roomFor 35 = .ok (.iload_n 3, 1) := by decide +kernel
theorem dX7_roomFor_36 : decode cX7_roomFor 36 = .ok (.aload_n 0, 1) := by decide +kernel
theorem dX7_roomFor_37 : decode cX7_roomFor 37 = .ok (.getfield 7, 3) := by decide +kernel
theorem dX7_roomFor_40 : decode cX7_roomFor 40 = .ok (.iload_n 1, 1) := by decide +kernel
theorem dX7_roomFor_41 : decode cX7_roomFor 41 = .ok (.iconst 2, 1) := by decide +kernel
theorem dX7_roomFor_42 : decode cX7_roomFor 42 = .ok (.invokestatic 40, 3) := by decide +kernel
theorem dX7_roomFor_45 : decode cX7_roomFor 45 = .ok (.iaload, 1) := by decide +kernel
theorem dX7_roomFor_46 : decode cX7_roomFor 46 = .ok (.invokevirtual 77, 3) := by decide +kernel
theorem dX7_roomFor_49 : decode cX7_roomFor 49 = .ok (.ifCond .ne 7, 3) := by decide +kernel
theorem dX7_roomFor_52 : decode cX7_roomFor 52 = .ok (.iconst 1, 1) := by decide +kernel
theorem dX7_roomFor_53 : decode cX7_roomFor 53 = .ok (.goto 4, 3) := by decide +kernel
theorem dX7_roomFor_56 : decode cX7_roomFor 56 = .ok (.iconst 0, 1) := by decide +kernel
theorem dX7_roomFor_57 : decode cX7_roomFor 57 = .ok (.istore 4, 2) := by decide +kernel
theorem dX7_roomFor_59 : decode cX7_roomFor 59 = .ok (.iload 4, 2) := by decide +kernel
theorem dX7_roomFor_61 : decode cX7_roomFor 61 = .ok (.ifCond .eq 34, 3) := by decide +kernel
theorem dX7_roomFor_64 : decode cX7_roomFor 64 = .ok (.iload_n 2, 1) := by decide +kernel
theorem dX7_roomFor_65 : decode cX7_roomFor 65 = .ok (.ifCond .lt 26, 3) := by decide +kernel
theorem dX7_roomFor_68 : decode cX7_roomFor 68 = .ok (.aload_n 0, 1) := by decide +kernel
theorem dX7_roomFor_69 : decode cX7_roomFor 69 = .ok (.getfield 7, 3) := by decide +kernel
theorem dX7_roomFor_72 : decode cX7_roomFor 72 = .ok (.sipush 330, 3) := by decide +kernel
theorem dX7_roomFor_75 : decode cX7_roomFor 75 = .ok (.iload_n 3, 1) := by decide +kernel
theorem dX7_roomFor_76 : decode cX7_roomFor 76 = .ok (.iadd, 1) := by decide +kernel
theorem dX7_roomFor_77 : decode cX7_roomFor 77 = .ok (.iaload, 1) := by decide +kernel
theorem dX7_roomFor_78 : decode cX7_roomFor 78 = .ok (.aload_n 0, 1) := by decide +kernel
theorem dX7_roomFor_79 : decode cX7_roomFor 79 = .ok (.getfield 7, 3) := by decide +kernel
theorem dX7_roomFor_82 : decode cX7_roomFor 82 = .ok (.sipush 330, 3) := by decide +kernel
theorem dX7_roomFor_85 : decode cX7_roomFor 85 = .ok (.iload_n 2, 1) := by decide +kernel
theorem dX7_roomFor_86 : decode cX7_roomFor 86 = .ok (.iadd, 1) := by decide +kernel
theorem dX7_roomFor_87 : decode cX7_roomFor 87 = .ok (.iaload, 1) := by decide +kernel
theorem dX7_roomFor_88 : decode cX7_roomFor 88 = .ok (.if_icmp .ge 7, 3) := by decide +kernel
theorem dX7_roomFor_91 : decode cX7_roomFor 91 = .ok (.iload_n 3, 1) := by decide +kernel
theorem dX7_roomFor_92 : decode cX7_roomFor 92 = .ok (.goto 4, 3) := by decide +kernel
theorem dX7_roomFor_95 : decode cX7_roomFor 95 = .ok (.iload_n 2, 1) := by decide +kernel
theorem dX7_roomFor_96 : decode cX7_roomFor 96 = .ok (.istore_n 2, 1) := by decide +kernel
theorem dX7_roomFor_97 : decode cX7_roomFor 97 = .ok (.iinc 3 1, 3) := by decide +kernel
theorem dX7_roomFor_100 : decode cX7_roomFor 100 = .ok (.goto (-96), 3) := by decide +kernel
theorem dX7_roomFor_103 : decode cX7_roomFor 103 = .ok (.iload_n 2, 1) := by decide +kernel
theorem dX7_roomFor_104 : decode cX7_roomFor 104 = .ok (.ireturn, 1) := by decide +kernel
theorem dX7_closes_0 : decode cX7_closes 0 = .ok (.aload_n 0, 1) := by decide +kernel
theorem dX7_closes_1 : decode cX7_closes 1 = .ok (.invokevirtual 81, 3) := by decide +kernel
theorem dX7_closes_4 : decode cX7_closes 4 = .ok (.istore_n 1, 1) := by decide +kernel
theorem dX7_closes_5 : decode cX7_closes 5 = .ok (.iload_n 1, 1) := by decide +kernel
theorem dX7_closes_6 : decode cX7_closes 6 = .ok (.ifCond .lt 40, 3) := by decide +kernel
theorem dX7_closes_9 : decode cX7_closes 9 = .ok (.aload_n 0, 1) := by decide +kernel
theorem dX7_closes_10 : decode cX7_closes 10 = .ok (.iload_n 1, 1) := by decide +kernel
theorem dX7_closes_11 : decode cX7_closes 11 = .ok (.invokevirtual 85, 3) := by decide +kernel
theorem dX7_closes_14 : decode cX7_closes 14 = .ok (.istore_n 2, 1) := by decide +kernel
theorem dX7_closes_15 : decode cX7_closes 15 = .ok (.iload_n 2, 1) := by decide +kernel
theorem dX7_closes_16 : decode cX7_closes 16 = .ok (.ifCond .ge 12, 3) := by decide +kernel
theorem dX7_closes_19 : decode cX7_closes 19 = .ok (.aload_n 0, 1) := by decide +kernel
theorem dX7_closes_20 : decode cX7_closes 20 = .ok (.iload_n 1, 1) := by decide +kernel
theorem dX7_closes_21 : decode cX7_closes 21 = .ok (.iconst 2, 1) := by decide +kernel
theorem dX7_closes_22 : decode cX7_closes 22 = .ok (.invokevirtual 88, 3) := by decide +kernel
theorem dX7_closes_25 : decode cX7_closes 25 = .ok (.goto 9, 3) := by decide +kernel
theorem dX7_closes_28 : decode cX7_closes 28 = .ok (.aload_n 0, 1) := by decide +kernel
theorem dX7_closes_29 : decode cX7_closes 29 = .ok (.iload_n 1, 1) := by decide +kernel
theorem dX7_closes_30 : decode cX7_closes 30 = .ok (.iload_n 2, 1) := by decide +kernel
theorem dX7_closes_31 : decode cX7_closes 31 = .ok (.invokevirtual 91, 3) := by decide +kernel
theorem dX7_closes_34 : decode cX7_closes 34 = .ok (.aload_n 0, 1) := by decide +kernel
theorem dX7_closes_35 : decode cX7_closes 35 = .ok (.invokevirtual 94, 3) := by decide +kernel
theorem dX7_closes_38 : decode cX7_closes 38 = .ok (.aload_n 0, 1) := by decide +kernel
theorem dX7_closes_39 : decode cX7_closes 39 = .ok (.invokevirtual 81, 3) := by decide +kernel
theorem dX7_closes_42 : decode cX7_closes 42 = .ok (.istore_n 1, 1) := by decide +kernel
theorem dX7_closes_43 : decode cX7_closes 43 = .ok (.goto (-38), 3) := by decide +kernel
theorem dX7_closes_46 : decode cX7_closes 46 = .ok (.aload_n 0, 1) := by decide +kernel
theorem dX7_closes_47 : decode cX7_closes 47 = .ok (.invokevirtual 97, 3) := by decide +kernel
theorem dX7_closes_50 : decode cX7_closes 50 = .ok (.istore_n 1, 1) := by decide +kernel
theorem dX7_closes_51 : decode cX7_closes 51 = .ok (.iload_n 1, 1) := by decide +kernel
theorem dX7_closes_52 : decode cX7_closes 52 = .ok (.ifCond .lt 54, 3) := by decide +kernel
theorem dX7_closes_55 : decode cX7_closes 55 = .ok (.aload_n 0, 1) := by decide +kernel
theorem dX7_closes_56 : decode cX7_closes 56 = .ok (.iload_n 1, 1) := by decide +kernel
theorem dX7_closes_57 : decode cX7_closes 57 = .ok (.invokevirtual 100, 3) := by decide +kernel
theorem dX7_closes_60 : decode cX7_closes 60 = .ok (.istore_n 2, 1) := by decide +kernel
theorem dX7_closes_61 : decode cX7_closes 61 = .ok (.iload_n 2, 1) := by decide +kernel
theorem dX7_closes_62 : decode cX7_closes 62 = .ok (.ifCond .ge 12, 3) := by decide +kernel
theorem dX7_closes_65 : decode cX7_closes 65 = .ok (.aload_n 0, 1) := by decide +kernel
theorem dX7_closes_66 : decode cX7_closes 66 = .ok (.iload_n 1, 1) := by decide +kernel
theorem dX7_closes_67 : decode cX7_closes 67 = .ok (.iconst 3, 1) := by decide +kernel
theorem dX7_closes_68 : decode cX7_closes 68 = .ok (.invokevirtual 88, 3) := by decide +kernel
theorem dX7_closes_71 : decode cX7_closes 71 = .ok (.goto 27, 3) := by decide +kernel
theorem dX7_closes_74 : decode cX7_closes 74 = .ok (.aload_n 0, 1) := by decide +kernel
theorem dX7_closes_75 : decode cX7_closes 75 = .ok (.getfield 7, 3) := by decide +kernel
theorem dX7_closes_78 : decode cX7_closes 78 = .ok (.iload_n 1, 1) := by decide +kernel
theorem dX7_closes_79 : decode cX7_closes 79 = .ok (.bipush 7, 2) := by decide +kernel
theorem dX7_closes_81 : decode cX7_closes 81 = .ok (.invokestatic 40, 3) := by decide +kernel
theorem dX7_closes_84 : decode cX7_closes 84 = .ok (.iload_n 2, 1) := by decide +kernel
theorem dX7_closes_85 : decode cX7_closes 85 = .ok (.iastore, 1) := by decide +kernel
theorem dX7_closes_86 : decode cX7_closes 86 = .ok (.aload_n 0, 1) := by decide +kernel
theorem dX7_closes_87 : decode cX7_closes 87 = .ok (.getfield 7, 3) := by decide +kernel
theorem dX7_closes_90 : decode cX7_closes 90 = .ok (.iload_n 1, 1) := by decide +kernel
theorem dX7_closes_91 : decode cX7_closes 91 = .ok (.bipush 6, 2) := by decide +kernel
theorem dX7_closes_93 : decode cX7_closes 93 = .ok (.invokestatic 40, 3) := by decide +kernel
theorem dX7_closes_96 : decode cX7_closes 96 = .ok (.iconst 1, 1) := by decide +kernel
theorem dX7_closes_97 : decode cX7_closes 97 = .ok (.iastore, 1) := by decide +kernel
theorem dX7_closes_98 : decode cX7_closes 98 = .ok (.aload_n 0, 1) := by decide +kernel
theorem dX7_closes_99 : decode cX7_closes 99 = .ok (.invokevirtual 97, 3) := by decide +kernel
theorem dX7_closes_102 : decode cX7_closes 102 = .ok (.istore_n 1, 1) := by decide +kernel
theorem dX7_closes_103 : decode cX7_closes 103 = .ok (.goto (-52), 3) := by decide +kernel
theorem dX7_closes_106 : decode cX7_closes 106 = .ok (.aload_n 0, 1) := by decide +kernel
theorem dX7_closes_107 : decode cX7_closes 107 = .ok (.getfield 7, 3) := by decide +kernel
theorem dX7_closes_110 : decode cX7_closes 110 = .ok (.sipush 547, 3) := by decide +kernel
theorem dX7_closes_113 : decode cX7_closes 113 = .ok (.iconst 1, 1) := by decide +kernel
theorem dX7_closes_114 : decode cX7_closes 114 = .ok (.iastore, 1) := by decide +kernel
theorem dX7_closes_115 : decode cX7_closes 115 = .ok (.return_, 1) := by decide +kernel
theorem dX7_inState_0 : decode cX7_inState 0 = .ok (.iconst 0, 1) := by decide +kernel
theorem dX7_inState_1 : decode cX7_inState 1 = .ok (.istore_n 2, 1) := by decide +kernel
theorem dX7_inState_2 : decode cX7_inState 2 = .ok (.iconst 0, 1) := by decide +kernel
theorem dX7_inState_3 : decode cX7_inState 3 = .ok (.istore_n 3, 1) := by decide +kernel
theorem dX7_inState_4 : decode cX7_inState 4 = .ok (.iload_n 3, 1) := by decide +kernel
theorem dX7_inState_5 : decode cX7_inState 5 = .ok (.aload_n 0, 1) := by decide +kernel
theorem dX7_inState_6 : decode cX7_inState 6 = .ok (.getfield 7, 3) := by decide +kernel
theorem dX7_inState_9 : decode cX7_inState 9 = .ok (.iconst 0, 1) := by decide +kernel
theorem dX7_inState_10 : decode cX7_inState 10 = .ok (.iaload, 1) := by decide +kernel
theorem dX7_inState_11 : decode cX7_inState 11 = .ok (.if_icmp .ge 34, 3) := by decide +kernel
theorem dX7_inState_14 : decode cX7_inState 14 = .ok (.iload_n 2, 1) := by decide +kernel
theorem dX7_inState_15 : decode cX7_inState 15 = .ok (.aload_n 0, 1) := by decide +kernel
theorem dX7_inState_16 : decode cX7_inState 16 = .ok (.getfield 7, 3) := by decide +kernel
theorem dX7_inState_19 : decode cX7_inState 19 = .ok (.iload_n 3, 1) := by decide +kernel
theorem dX7_inState_20 : decode cX7_inState 20 = .ok (.bipush 6, 2) := by decide +kernel
theorem dX7_inState_22 : decode cX7_inState 22 = .ok (.invokestatic 40, 3) := by decide +kernel
theorem dX7_inState_25 : decode cX7_inState 25 = .ok (.iaload, 1) := by decide +kernel
theorem dX7_inState_26 : decode cX7_inState 26 = .ok (.iload_n 1, 1) := by decide +kernel
theorem dX7_inState_27 : decode cX7_inState 27 = .ok (.if_icmp .ne 9, 3) := by decide +kernel
theorem dX7_inState_30 : decode cX7_inState 30 = .ok (.iconst 1, 1) := by decide +kernel
theorem dX7_inState_31 : decode cX7_inState 31 = .ok (.iload_n 3, 1) := by decide +kernel
theorem dX7_inState_32 : decode cX7_inState 32 = .ok (.ishl, 1) := by decide +kernel
theorem dX7_inState_33 : decode cX7_inState 33 = .ok (.goto 4, 3) := by decide +kernel
theorem dX7_inState_36 : decode cX7_inState 36 = .ok (.iconst 0, 1) := by decide +kernel
theorem dX7_inState_37 : decode cX7_inState 37 = .ok (.ior, 1) := by decide +kernel
theorem dX7_inState_38 : decode cX7_inState 38 = .ok (.istore_n 2, 1) := by decide +kernel
theorem dX7_inState_39 : decode cX7_inState 39 = .ok (.iinc 3 1, 3) := by decide +kernel
theorem dX7_inState_42 : decode cX7_inState 42 = .ok (.goto (-38), 3) := by decide +kernel
theorem dX7_inState_45 : decode cX7_inState 45 = .ok (.iload_n 2, 1) := by decide +kernel
theorem dX7_inState_46 : decode cX7_inState 46 = .ok (.ireturn, 1) := by decide +kernel
theorem dX7_size_0 : decode cX7_size 0 = .ok (.iconst 0, 1) := by decide +kernel
theorem dX7_size_1 : decode cX7_size 1 = .ok (.istore_n 1, 1) := by decide +kernel
theorem dX7_size_2 : decode cX7_size 2 = .ok (.iload_n 0, 1) := by decide +kernel
theorem dX7_size_3 : decode cX7_size 3 = .ok (.istore_n 2, 1) := by decide +kernel
theorem dX7_size_4 : decode cX7_size 4 = .ok (.iload_n 2, 1) := by decide +kernel
theorem dX7_size_5 : decode cX7_size 5 = .ok (.ifCond .le 16, 3) := by decide +kernel
theorem dX7_size_8 : decode cX7_size 8 = .ok (.iload_n 1, 1) := by decide +kernel
theorem dX7_size_9 : decode cX7_size 9 = .ok (.iload_n 2, 1) := by decide +kernel
theorem dX7_size_10 : decode cX7_size 10 = .ok (.iconst 2, 1) := by decide +kernel
theorem dX7_size_11 : decode cX7_size 11 = .ok (.irem, 1) := by decide +kernel
theorem dX7_size_12 : decode cX7_size 12 = .ok (.iadd, 1) := by decide +kernel
theorem dX7_size_13 : decode cX7_size 13 = .ok (.istore_n 1, 1) := by decide +kernel
theorem dX7_size_14 : decode cX7_size 14 = .ok (.iload_n 2, 1) := by decide +kernel
theorem dX7_size_15 : decode cX7_size 15 = .ok (.iconst 2, 1) := by decide +kernel
theorem dX7_size_16 : decode cX7_size 16 = .ok (.idiv, 1) := by decide +kernel
theorem dX7_size_17 : decode cX7_size 17 = .ok (.istore_n 2, 1) := by decide +kernel
theorem dX7_size_18 : decode cX7_size 18 = .ok (.goto (-14), 3) := by decide +kernel
theorem dX7_size_21 : decode cX7_size 21 = .ok (.iload_n 1, 1) := by decide +kernel
theorem dX7_size_22 : decode cX7_size 22 = .ok (.ireturn, 1) := by decide +kernel
theorem dX7_areWishes_0 : decode cX7_areWishes 0 = .ok (.aload_n 0, 1) := by decide +kernel
theorem dX7_areWishes_1 : decode cX7_areWishes 1 = .ok (.iload_n 1, 1) := by decide +kernel
theorem dX7_areWishes_2 : decode cX7_areWishes 2 = .ok (.invokevirtual 103, 3) := by decide +kernel
theorem dX7_areWishes_5 : decode cX7_areWishes 5 = .ok (.ifCond .eq 48, 3) := by decide +kernel
theorem dX7_areWishes_8 : decode cX7_areWishes 8 = .ok (.iload_n 2, 1) := by decide +kernel
theorem dX7_areWishes_9 : decode cX7_areWishes 9 = .ok (.iconst (-1), 1) := by decide +kernel
theorem dX7_areWishes_10 : decode cX7_areWishes 10 = .ok (.if_icmp .eq 16, 3) := by decide +kernel
theorem dX7_areWishes_13 : decode cX7_areWishes 13 = .ok (.aload_n 0, 1) := by decide +kernel
theorem dX7_areWishes_14 : decode cX7_areWishes 14 = .ok (.iload_n 2, 1) := by decide +kernel
theorem dX7_areWishes_15 : decode cX7_areWishes 15 = .ok (.invokevirtual 103, 3) := by decide +kernel
theorem dX7_areWishes_18 : decode cX7_areWishes 18 = .ok (.ifCond .eq 35, 3) := by decide +kernel
theorem dX7_areWishes_21 : decode cX7_areWishes 21 = .ok (.iload_n 2, 1) := by decide +kernel
theorem dX7_areWishes_22 : decode cX7_areWishes 22 = .ok (.iload_n 1, 1) := by decide +kernel
theorem dX7_areWishes_23 : decode cX7_areWishes 23 = .ok (.if_icmp .eq 30, 3) := by decide +kernel
theorem dX7_areWishes_26 : decode cX7_areWishes 26 = .ok (.iload_n 3, 1) := by decide +kernel
theorem dX7_areWishes_27 : decode cX7_areWishes 27 = .ok (.iconst (-1), 1) := by decide +kernel
theorem dX7_areWishes_28 : decode cX7_areWishes 28 = .ok (.if_icmp .eq 21, 3) := by decide +kernel
theorem dX7_areWishes_31 : decode cX7_areWishes 31 = .ok (.aload_n 0, 1) := by decide +kernel
theorem dX7_areWishes_32 : decode cX7_areWishes 32 = .ok (.iload_n 3, 1) := by decide +kernel
theorem dX7_areWishes_33 : decode cX7_areWishes 33 = .ok (.invokevirtual 103, 3) := by decide +kernel
theorem dX7_areWishes_36 : decode cX7_areWishes 36 = .ok (.ifCond .eq 17, 3) := by decide +kernel
theorem dX7_areWishes_39 : decode cX7_areWishes 39 = .ok (.iload_n 3, 1) := by decide +kernel
theorem dX7_areWishes_40 : decode cX7_areWishes 40 = .ok (.iload_n 1, 1) := by decide +kernel
theorem dX7_areWishes_41 : decode cX7_areWishes 41 = .ok (.if_icmp .eq 12, 3) := by decide +kernel
theorem dX7_areWishes_44 : decode cX7_areWishes 44 = .ok (.iload_n 3, 1) := by decide +kernel
theorem dX7_areWishes_45 : decode cX7_areWishes 45 = .ok (.iload_n 2, 1) := by decide +kernel
theorem dX7_areWishes_46 : decode cX7_areWishes 46 = .ok (.if_icmp .eq 7, 3) := by decide +kernel
theorem dX7_areWishes_49 : decode cX7_areWishes 49 = .ok (.iconst 1, 1) := by decide +kernel
theorem dX7_areWishes_50 : decode cX7_areWishes 50 = .ok (.goto 4, 3) := by decide +kernel
theorem dX7_areWishes_53 : decode cX7_areWishes 53 = .ok (.iconst 0, 1) := by decide +kernel
theorem dX7_areWishes_54 : decode cX7_areWishes 54 = .ok (.istore 4, 2) := by decide +kernel
theorem dX7_areWishes_56 : decode cX7_areWishes 56 = .ok (.iload 4, 2) := by decide +kernel
theorem dX7_areWishes_58 : decode cX7_areWishes 58 = .ok (.ifCond .eq 17, 3) := by decide +kernel
theorem dX7_areWishes_61 : decode cX7_areWishes 61 = .ok (.iload_n 3, 1) := by decide +kernel
theorem dX7_areWishes_62 : decode cX7_areWishes 62 = .ok (.iconst (-1), 1) := by decide +kernel
theorem dX7_areWishes_63 : decode cX7_areWishes 63 = .ok (.if_icmp .eq 8, 3) := by decide +kernel
theorem dX7_areWishes_66 : decode cX7_areWishes 66 = .ok (.iload_n 2, 1) := by decide +kernel
theorem dX7_areWishes_67 : decode cX7_areWishes 67 = .ok (.iconst (-1), 1) := by decide +kernel
theorem dX7_areWishes_68 : decode cX7_areWishes 68 = .ok (.if_icmp .eq 7, 3) := by decide +kernel
theorem dX7_areWishes_71 : decode cX7_areWishes 71 = .ok (.iconst 1, 1) := by decide +kernel
theorem dX7_areWishes_72 : decode cX7_areWishes 72 = .ok (.goto 4, 3) := by decide +kernel
theorem dX7_areWishes_75 : decode cX7_areWishes 75 = .ok (.iconst 0, 1) := by decide +kernel
theorem dX7_areWishes_76 : decode cX7_areWishes 76 = .ok (.ireturn, 1) := by decide +kernel
theorem dX7_wishes_0 : decode cX7_wishes 0 = .ok (.aload_n 0, 1) := by decide +kernel
theorem dX7_wishes_1 : decode cX7_wishes 1 = .ok (.getfield 7, 3) := by decide +kernel
theorem dX7_wishes_4 : decode cX7_wishes 4 = .ok (.iload_n 1, 1) := by decide +kernel
theorem dX7_wishes_5 : decode cX7_wishes 5 = .ok (.iconst 1, 1) := by decide +kernel
theorem dX7_wishes_6 : decode cX7_wishes 6 = .ok (.invokestatic 36, 3) := by decide +kernel
theorem dX7_wishes_9 : decode cX7_wishes 9 = .ok (.iload_n 2, 1) := by decide +kernel
theorem dX7_wishes_10 : decode cX7_wishes 10 = .ok (.iastore, 1) := by decide +kernel
theorem dX7_wishes_11 : decode cX7_wishes 11 = .ok (.aload_n 0, 1) := by decide +kernel
theorem dX7_wishes_12 : decode cX7_wishes 12 = .ok (.getfield 7, 3) := by decide +kernel
theorem dX7_wishes_15 : decode cX7_wishes 15 = .ok (.iload_n 1, 1) := by decide +kernel
theorem dX7_wishes_16 : decode cX7_wishes 16 = .ok (.iconst 2, 1) := by decide +kernel
theorem dX7_wishes_17 : decode cX7_wishes 17 = .ok (.invokestatic 36, 3) := by decide +kernel
theorem dX7_wishes_20 : decode cX7_wishes 20 = .ok (.iload_n 3, 1) := by decide +kernel
theorem dX7_wishes_21 : decode cX7_wishes 21 = .ok (.iastore, 1) := by decide +kernel
theorem dX7_wishes_22 : decode cX7_wishes 22 = .ok (.aload_n 0, 1) := by decide +kernel
theorem dX7_wishes_23 : decode cX7_wishes 23 = .ok (.getfield 7, 3) := by decide +kernel
theorem dX7_wishes_26 : decode cX7_wishes 26 = .ok (.iload_n 1, 1) := by decide +kernel
theorem dX7_wishes_27 : decode cX7_wishes 27 = .ok (.iconst 3, 1) := by decide +kernel
theorem dX7_wishes_28 : decode cX7_wishes 28 = .ok (.invokestatic 36, 3) := by decide +kernel
theorem dX7_wishes_31 : decode cX7_wishes 31 = .ok (.iload 4, 2) := by decide +kernel
theorem dX7_wishes_33 : decode cX7_wishes 33 = .ok (.iastore, 1) := by decide +kernel
theorem dX7_wishes_34 : decode cX7_wishes 34 = .ok (.return_, 1) := by decide +kernel
theorem dX7_comes_0 : decode cX7_comes 0 = .ok (.aload_n 0, 1) := by decide +kernel
theorem dX7_comes_1 : decode cX7_comes 1 = .ok (.iload_n 1, 1) := by decide +kernel
theorem dX7_comes_2 : decode cX7_comes 2 = .ok (.iload_n 2, 1) := by decide +kernel
theorem dX7_comes_3 : decode cX7_comes 3 = .ok (.iload_n 3, 1) := by decide +kernel
theorem dX7_comes_4 : decode cX7_comes 4 = .ok (.invokevirtual 106, 3) := by decide +kernel
theorem dX7_comes_7 : decode cX7_comes 7 = .ok (.ifCond .ne 6, 3) := by decide +kernel
theorem dX7_comes_10 : decode cX7_comes 10 = .ok (.ldc 109, 2) := by decide +kernel
theorem dX7_comes_12 : decode cX7_comes 12 = .ok (.ireturn, 1) := by decide +kernel
theorem dX7_comes_13 : decode cX7_comes 13 = .ok (.aload_n 0, 1) := by decide +kernel
theorem dX7_comes_14 : decode cX7_comes 14 = .ok (.getfield 7, 3) := by decide +kernel
theorem dX7_comes_17 : decode cX7_comes 17 = .ok (.sipush 547, 3) := by decide +kernel
theorem dX7_comes_20 : decode cX7_comes 20 = .ok (.iaload, 1) := by decide +kernel
theorem dX7_comes_21 : decode cX7_comes 21 = .ok (.iconst 1, 1) := by decide +kernel
theorem dX7_comes_22 : decode cX7_comes 22 = .ok (.if_icmp .ne 6, 3) := by decide +kernel
theorem dX7_comes_25 : decode cX7_comes 25 = .ok (.ldc 110, 2) := by decide +kernel
theorem dX7_comes_27 : decode cX7_comes 27 = .ok (.ireturn, 1) := by decide +kernel
theorem dX7_comes_28 : decode cX7_comes 28 = .ok (.aload_n 0, 1) := by decide +kernel
theorem dX7_comes_29 : decode cX7_comes 29 = .ok (.getfield 7, 3) := by decide +kernel
theorem dX7_comes_32 : decode cX7_comes 32 = .ok (.sipush 335, 3) := by decide +kernel
theorem dX7_comes_35 : decode cX7_comes 35 = .ok (.iaload, 1) := by decide +kernel
theorem dX7_comes_36 : decode cX7_comes 36 = .ok (.bipush 30, 2) := by decide +kernel
theorem dX7_comes_38 : decode cX7_comes 38 = .ok (.if_icmp .ne 6, 3) := by decide +kernel
theorem dX7_comes_41 : decode cX7_comes 41 = .ok (.ldc 111, 2) := by decide +kernel
theorem dX7_comes_43 : decode cX7_comes 43 = .ok (.ireturn, 1) := by decide +kernel
theorem dX7_comes_44 : decode cX7_comes 44 = .ok (.aload_n 0, 1) := by decide +kernel
theorem dX7_comes_45 : decode cX7_comes 45 = .ok (.getfield 7, 3) := by decide +kernel
theorem dX7_comes_48 : decode cX7_comes 48 = .ok (.sipush 335, 3) := by decide +kernel
theorem dX7_comes_51 : decode cX7_comes 51 = .ok (.iaload, 1) := by decide +kernel
theorem dX7_comes_52 : decode cX7_comes 52 = .ok (.istore 4, 2) := by decide +kernel
theorem dX7_comes_54 : decode cX7_comes 54 = .ok (.aload_n 0, 1) := by decide +kernel
theorem dX7_comes_55 : decode cX7_comes 55 = .ok (.getfield 7, 3) := by decide +kernel
theorem dX7_comes_58 : decode cX7_comes 58 = .ok (.sipush 335, 3) := by decide +kernel
theorem dX7_comes_61 : decode cX7_comes 61 = .ok (.dup2, 1) := by decide +kernel
theorem dX7_comes_62 : decode cX7_comes 62 = .ok (.iaload, 1) := by decide +kernel
theorem dX7_comes_63 : decode cX7_comes 63 = .ok (.iconst 1, 1) := by decide +kernel
theorem dX7_comes_64 : decode cX7_comes 64 = .ok (.iadd, 1) := by decide +kernel
theorem dX7_comes_65 : decode cX7_comes 65 = .ok (.iastore, 1) := by decide +kernel
theorem dX7_comes_66 : decode cX7_comes 66 = .ok (.aload_n 0, 1) := by decide +kernel
theorem dX7_comes_67 : decode cX7_comes 67 = .ok (.getfield 7, 3) := by decide +kernel
theorem dX7_comes_70 : decode cX7_comes 70 = .ok (.iload 4, 2) := by decide +kernel
theorem dX7_comes_72 : decode cX7_comes 72 = .ok (.iconst 0, 1) := by decide +kernel
theorem dX7_comes_73 : decode cX7_comes 73 = .ok (.invokestatic 36, 3) := by decide +kernel
theorem dX7_comes_76 : decode cX7_comes 76 = .ok (.iconst 1, 1) := by decide +kernel
theorem dX7_comes_77 : decode cX7_comes 77 = .ok (.iastore, 1) := by decide +kernel
theorem dX7_comes_78 : decode cX7_comes 78 = .ok (.aload_n 0, 1) := by decide +kernel
theorem dX7_comes_79 : decode cX7_comes 79 = .ok (.iload 4, 2) := by decide +kernel
theorem dX7_comes_81 : decode cX7_comes 81 = .ok (.iload_n 1, 1) := by decide +kernel
theorem dX7_comes_82 : decode cX7_comes 82 = .ok (.iload_n 2, 1) := by decide +kernel
theorem dX7_comes_83 : decode cX7_comes 83 = .ok (.iload_n 3, 1) := by decide +kernel
theorem dX7_comes_84 : decode cX7_comes 84 = .ok (.invokevirtual 112, 3) := by decide +kernel
theorem dX7_comes_87 : decode cX7_comes 87 = .ok (.aload_n 0, 1) := by decide +kernel
theorem dX7_comes_88 : decode cX7_comes 88 = .ok (.getfield 7, 3) := by decide +kernel
theorem dX7_comes_91 : decode cX7_comes 91 = .ok (.iload 4, 2) := by decide +kernel
theorem dX7_comes_93 : decode cX7_comes 93 = .ok (.iconst 4, 1) := by decide +kernel
theorem dX7_comes_94 : decode cX7_comes 94 = .ok (.invokestatic 36, 3) := by decide +kernel
theorem dX7_comes_97 : decode cX7_comes 97 = .ok (.iconst (-1), 1) := by decide +kernel
theorem dX7_comes_98 : decode cX7_comes 98 = .ok (.iastore, 1) := by decide +kernel
theorem dX7_comes_99 : decode cX7_comes 99 = .ok (.aload_n 0, 1) := by decide +kernel
theorem dX7_comes_100 : decode cX7_comes 100 = .ok (.getfield 7, 3) := by decide +kernel
theorem dX7_comes_103 : decode cX7_comes 103 = .ok (.iload 4, 2) := by decide +kernel
theorem dX7_comes_105 : decode cX7_comes 105 = .ok (.iconst 5, 1) := by decide +kernel
theorem dX7_comes_106 : decode cX7_comes 106 = .ok (.invokestatic 36, 3) := by decide +kernel
theorem dX7_comes_109 : decode cX7_comes 109 = .ok (.iconst 0, 1) := by decide +kernel
theorem dX7_comes_110 : decode cX7_comes 110 = .ok (.iastore, 1) := by decide +kernel
theorem dX7_comes_111 : decode cX7_comes 111 = .ok (.aload_n 0, 1) := by decide +kernel
theorem dX7_comes_112 : decode cX7_comes 112 = .ok (.getfield 7, 3) := by decide +kernel
theorem dX7_comes_115 : decode cX7_comes 115 = .ok (.iload 4, 2) := by decide +kernel
theorem dX7_comes_117 : decode cX7_comes 117 = .ok (.bipush 6, 2) := by decide +kernel
theorem dX7_comes_119 : decode cX7_comes 119 = .ok (.invokestatic 36, 3) := by decide +kernel
theorem dX7_comes_122 : decode cX7_comes 122 = .ok (.iconst 0, 1) := by decide +kernel
theorem dX7_comes_123 : decode cX7_comes 123 = .ok (.iastore, 1) := by decide +kernel
theorem dX7_comes_124 : decode cX7_comes 124 = .ok (.aload_n 0, 1) := by decide +kernel
theorem dX7_comes_125 : decode cX7_comes 125 = .ok (.invokevirtual 94, 3) := by decide +kernel
theorem dX7_comes_128 : decode cX7_comes 128 = .ok (.iload 4, 2) := by decide +kernel
theorem dX7_comes_130 : decode cX7_comes 130 = .ok (.ireturn, 1) := by decide +kernel
theorem dX7_changesWishes_0 : decode cX7_changesWishes 0 = .ok (.aload_n 0, 1) := by decide +kernel
theorem dX7_changesWishes_1 : decode cX7_changesWishes 1 = .ok (.iload_n 1, 1) := by decide +kernel
theorem dX7_changesWishes_2 : decode cX7_changesWishes 2 = .ok (.invokevirtual 116, 3) := by decide +kernel
theorem dX7_changesWishes_5 : decode cX7_changesWishes 5 = .ok (.ifCond .eq 14, 3) := by decide +kernel
theorem dX7_changesWishes_8 : decode cX7_changesWishes 8 = .ok (.aload_n 0, 1) := by decide +kernel
theorem dX7_changesWishes_9 : decode cX7_changesWishes 9 = .ok (.iload_n 2, 1) := by decide +kernel
theorem dX7_changesWishes_10 : decode cX7_changesWishes 10 = .ok (.iload_n 3, 1) := by decide +kernel
theorem dX7_changesWishes_11 : decode cX7_changesWishes 11 = .ok (.iload 4, 2) := by decide +kernel
theorem dX7_changesWishes_13 : decode cX7_changesWishes 13 = .ok (.invokevirtual 106, 3) := by decide +kernel
theorem dX7_changesWishes_16 : decode cX7_changesWishes 16 = .ok (.ifCond .ne 6, 3) := by decide +kernel
theorem dX7_changesWishes_19 : decode cX7_changesWishes 19 = .ok (.ldc 109, 2) := by decide +kernel
theorem dX7_changesWishes_21 : decode cX7_changesWishes 21 = .ok (.ireturn, 1) := by decide +kernel
theorem dX7_changesWishes_22 : decode cX7_changesWishes 22 = .ok (.aload_n 0, 1) := by decide +kernel
theorem dX7_changesWishes_23 : decode cX7_changesWishes 23 = .ok (.getfield 7, 3) := by decide +kernel
theorem dX7_changesWishes_26 : decode cX7_changesWishes 26 = .ok (.sipush 547, 3) := by decide +kernel
theorem dX7_changesWishes_29 : decode cX7_changesWishes 29 = .ok (.iaload, 1) := by decide +kernel
theorem dX7_changesWishes_30 : decode cX7_changesWishes 30 = .ok (.iconst 1, 1) := by decide +kernel
theorem dX7_changesWishes_31 : decode cX7_changesWishes 31 = .ok (.if_icmp .eq 11, 3) := by decide +kernel
theorem dX7_changesWishes_34 : decode cX7_changesWishes 34 = .ok (.aload_n 0, 1) := by decide +kernel
theorem dX7_changesWishes_35 : decode cX7_changesWishes 35 = .ok (.iload_n 1, 1) := by decide +kernel
theorem dX7_changesWishes_36 : decode cX7_changesWishes 36 = .ok (.invokevirtual 54, 3) := by decide +kernel
theorem dX7_changesWishes_39 : decode cX7_changesWishes 39 = .ok (.ifCond .ne 6, 3) := by decide +kernel
theorem dX7_changesWishes_42 : decode cX7_changesWishes 42 = .ok (.ldc 110, 2) := by decide +kernel
theorem dX7_changesWishes_44 : decode cX7_changesWishes 44 = .ok (.ireturn, 1) := by decide +kernel
theorem dX7_changesWishes_45 : decode cX7_changesWishes 45 = .ok (.aload_n 0, 1) := by decide +kernel
theorem dX7_changesWishes_46 : decode cX7_changesWishes 46 = .ok (.iload_n 1, 1) := by decide +kernel
theorem dX7_changesWishes_47 : decode cX7_changesWishes 47 = .ok (.iload_n 2, 1) := by decide +kernel
theorem dX7_changesWishes_48 : decode cX7_changesWishes 48 = .ok (.iload_n 3, 1) := by decide +kernel
theorem dX7_changesWishes_49 : decode cX7_changesWishes 49 = .ok (.iload 4, 2) := by decide +kernel
theorem dX7_changesWishes_51 : decode cX7_changesWishes 51 = .ok (.invokevirtual 112, 3) := by decide +kernel
theorem dX7_changesWishes_54 : decode cX7_changesWishes 54 = .ok (.aload_n 0, 1) := by decide +kernel
theorem dX7_changesWishes_55 : decode cX7_changesWishes 55 = .ok (.invokevirtual 94, 3) := by decide +kernel
theorem dX7_changesWishes_58 : decode cX7_changesWishes 58 = .ok (.aload_n 0, 1) := by decide +kernel
theorem dX7_changesWishes_59 : decode cX7_changesWishes 59 = .ok (.iload_n 1, 1) := by decide +kernel
theorem dX7_changesWishes_60 : decode cX7_changesWishes 60 = .ok (.invokevirtual 57, 3) := by decide +kernel
theorem dX7_changesWishes_63 : decode cX7_changesWishes 63 = .ok (.ireturn, 1) := by decide +kernel
theorem dX7_leaves_0 : decode cX7_leaves 0 = .ok (.aload_n 0, 1) := by decide +kernel
theorem dX7_leaves_1 : decode cX7_leaves 1 = .ok (.iload_n 1, 1) := by decide +kernel
theorem dX7_leaves_2 : decode cX7_leaves 2 = .ok (.invokevirtual 116, 3) := by decide +kernel
theorem dX7_leaves_5 : decode cX7_leaves 5 = .ok (.ifCond .ne 6, 3) := by decide +kernel
theorem dX7_leaves_8 : decode cX7_leaves 8 = .ok (.ldc 109, 2) := by decide +kernel
theorem dX7_leaves_10 : decode cX7_leaves 10 = .ok (.ireturn, 1) := by decide +kernel
theorem dX7_leaves_11 : decode cX7_leaves 11 = .ok (.aload_n 0, 1) := by decide +kernel
theorem dX7_leaves_12 : decode cX7_leaves 12 = .ok (.getfield 7, 3) := by decide +kernel
theorem dX7_leaves_15 : decode cX7_leaves 15 = .ok (.sipush 547, 3) := by decide +kernel
theorem dX7_leaves_18 : decode cX7_leaves 18 = .ok (.iaload, 1) := by decide +kernel
theorem dX7_leaves_19 : decode cX7_leaves 19 = .ok (.iconst 1, 1) := by decide +kernel
theorem dX7_leaves_20 : decode cX7_leaves 20 = .ok (.if_icmp .eq 11, 3) := by decide +kernel
theorem dX7_leaves_23 : decode cX7_leaves 23 = .ok (.aload_n 0, 1) := by decide +kernel
theorem dX7_leaves_24 : decode cX7_leaves 24 = .ok (.iload_n 1, 1) := by decide +kernel
theorem dX7_leaves_25 : decode cX7_leaves 25 = .ok (.invokevirtual 54, 3) := by decide +kernel
theorem dX7_leaves_28 : decode cX7_leaves 28 = .ok (.ifCond .ne 6, 3) := by decide +kernel
theorem dX7_leaves_31 : decode cX7_leaves 31 = .ok (.ldc 110, 2) := by decide +kernel
theorem dX7_leaves_33 : decode cX7_leaves 33 = .ok (.ireturn, 1) := by decide +kernel
theorem dX7_leaves_34 : decode cX7_leaves 34 = .ok (.aload_n 0, 1) := by decide +kernel
theorem dX7_leaves_35 : decode cX7_leaves 35 = .ok (.getfield 7, 3) := by decide +kernel
theorem dX7_leaves_38 : decode cX7_leaves 38 = .ok (.iload_n 1, 1) := by decide +kernel
theorem dX7_leaves_39 : decode cX7_leaves 39 = .ok (.iconst 5, 1) := by decide +kernel
theorem dX7_leaves_40 : decode cX7_leaves 40 = .ok (.invokestatic 36, 3) := by decide +kernel
theorem dX7_leaves_43 : decode cX7_leaves 43 = .ok (.iaload, 1) := by decide +kernel
theorem dX7_leaves_44 : decode cX7_leaves 44 = .ok (.istore_n 2, 1) := by decide +kernel
theorem dX7_leaves_45 : decode cX7_leaves 45 = .ok (.aload_n 0, 1) := by decide +kernel
theorem dX7_leaves_46 : decode cX7_leaves 46 = .ok (.iload_n 1, 1) := by decide +kernel
theorem dX7_leaves_47 : decode cX7_leaves 47 = .ok (.invokevirtual 66, 3) := by decide +kernel
theorem dX7_leaves_50 : decode cX7_leaves 50 = .ok (.aload_n 0, 1) := by decide +kernel
theorem dX7_leaves_51 : decode cX7_leaves 51 = .ok (.getfield 7, 3) := by decide +kernel
theorem dX7_leaves_54 : decode cX7_leaves 54 = .ok (.iload_n 1, 1) := by decide +kernel
theorem dX7_leaves_55 : decode cX7_leaves 55 = .ok (.iconst 0, 1) := by decide +kernel
theorem dX7_leaves_56 : decode cX7_leaves 56 = .ok (.invokestatic 36, 3) := by decide +kernel
theorem dX7_leaves_59 : decode cX7_leaves 59 = .ok (.iconst 0, 1) := by decide +kernel
theorem dX7_leaves_60 : decode cX7_leaves 60 = .ok (.iastore, 1) := by decide +kernel
theorem dX7_leaves_61 : decode cX7_leaves 61 = .ok (.aload_n 0, 1) := by decide +kernel
theorem dX7_leaves_62 : decode cX7_leaves 62 = .ok (.invokevirtual 94, 3) := by decide +kernel
theorem dX7_leaves_65 : decode cX7_leaves 65 = .ok (.iload_n 2, 1) := by decide +kernel
theorem dX7_leaves_66 : decode cX7_leaves 66 = .ok (.ireturn, 1) := by decide +kernel
theorem dX7_closesTerm_0 : decode cX7_closesTerm 0 = .ok (.aload_n 0, 1) := by decide +kernel
theorem dX7_closesTerm_1 : decode cX7_closesTerm 1 = .ok (.getfield 7, 3) := by decide +kernel
theorem dX7_closesTerm_4 : decode cX7_closesTerm 4 = .ok (.sipush 547, 3) := by decide +kernel
theorem dX7_closesTerm_7 : decode cX7_closesTerm 7 = .ok (.iaload, 1) := by decide +kernel
theorem dX7_closesTerm_8 : decode cX7_closesTerm 8 = .ok (.iconst 1, 1) := by decide +kernel
theorem dX7_closesTerm_9 : decode cX7_closesTerm 9 = .ok (.if_icmp .ne 6, 3) := by decide +kernel
theorem dX7_closesTerm_12 : decode cX7_closesTerm 12 = .ok (.ldc 110, 2) := by decide +kernel
theorem dX7_closesTerm_14 : decode cX7_closesTerm 14 = .ok (.ireturn, 1) := by decide +kernel
theorem dX7_closesTerm_15 : decode cX7_closesTerm 15 = .ok (.aload_n 0, 1) := by decide +kernel
theorem dX7_closesTerm_16 : decode cX7_closesTerm 16 = .ok (.invokevirtual 119, 3) := by decide +kernel
theorem dX7_closesTerm_19 : decode cX7_closesTerm 19 = .ok (.aload_n 0, 1) := by decide +kernel
theorem dX7_closesTerm_20 : decode cX7_closesTerm 20 = .ok (.iconst 1, 1) := by decide +kernel
theorem dX7_closesTerm_21 : decode cX7_closesTerm 21 = .ok (.invokevirtual 122, 3) := by decide +kernel
theorem dX7_closesTerm_24 : decode cX7_closesTerm 24 = .ok (.invokestatic 125, 3) := by decide +kernel
theorem dX7_closesTerm_27 : decode cX7_closesTerm 27 = .ok (.ireturn, 1) := by decide +kernel
theorem dX7_paidNow_0 : decode cX7_paidNow 0 = .ok (.iconst 0, 1) := by decide +kernel
theorem dX7_paidNow_1 : decode cX7_paidNow 1 = .ok (.istore_n 1, 1) := by decide +kernel
theorem dX7_paidNow_2 : decode cX7_paidNow 2 = .ok (.iconst 0, 1) := by decide +kernel
theorem dX7_paidNow_3 : decode cX7_paidNow 3 = .ok (.istore_n 2, 1) := by decide +kernel
theorem dX7_paidNow_4 : decode cX7_paidNow 4 = .ok (.iload_n 2, 1) := by decide +kernel
theorem dX7_paidNow_5 : decode cX7_paidNow 5 = .ok (.aload_n 0, 1) := by decide +kernel
theorem dX7_paidNow_6 : decode cX7_paidNow 6 = .ok (.getfield 7, 3) := by decide +kernel
theorem dX7_paidNow_9 : decode cX7_paidNow 9 = .ok (.sipush 335, 3) := by decide +kernel
theorem dX7_paidNow_12 : decode cX7_paidNow 12 = .ok (.iaload, 1) := by decide +kernel
theorem dX7_paidNow_13 : decode cX7_paidNow 13 = .ok (.if_icmp .ge 22, 3) := by decide +kernel
theorem dX7_paidNow_16 : decode cX7_paidNow 16 = .ok (.iload_n 1, 1) := by decide +kernel
theorem dX7_paidNow_17 : decode cX7_paidNow 17 = .ok (.aload_n 0, 1) := by decide +kernel
theorem dX7_paidNow_18 : decode cX7_paidNow 18 = .ok (.getfield 7, 3) := by decide +kernel
theorem dX7_paidNow_21 : decode cX7_paidNow 21 = .ok (.iload_n 2, 1) := by decide +kernel
theorem dX7_paidNow_22 : decode cX7_paidNow 22 = .ok (.iconst 5, 1) := by decide +kernel
theorem dX7_paidNow_23 : decode cX7_paidNow 23 = .ok (.invokestatic 36, 3) := by decide +kernel
theorem dX7_paidNow_26 : decode cX7_paidNow 26 = .ok (.iaload, 1) := by decide +kernel
theorem dX7_paidNow_27 : decode cX7_paidNow 27 = .ok (.iadd, 1) := by decide +kernel
theorem dX7_paidNow_28 : decode cX7_paidNow 28 = .ok (.istore_n 1, 1) := by decide +kernel
theorem dX7_paidNow_29 : decode cX7_paidNow 29 = .ok (.iinc 2 1, 3) := by decide +kernel
theorem dX7_paidNow_32 : decode cX7_paidNow 32 = .ok (.goto (-28), 3) := by decide +kernel
theorem dX7_paidNow_35 : decode cX7_paidNow 35 = .ok (.iload_n 1, 1) := by decide +kernel
theorem dX7_paidNow_36 : decode cX7_paidNow 36 = .ok (.ireturn, 1) := by decide +kernel
theorem dX7_beginsTerm_0 : decode cX7_beginsTerm 0 = .ok (.aload_n 0, 1) := by decide +kernel
theorem dX7_beginsTerm_1 : decode cX7_beginsTerm 1 = .ok (.getfield 7, 3) := by decide +kernel
theorem dX7_beginsTerm_4 : decode cX7_beginsTerm 4 = .ok (.sipush 547, 3) := by decide +kernel
theorem dX7_beginsTerm_7 : decode cX7_beginsTerm 7 = .ok (.iaload, 1) := by decide +kernel
theorem dX7_beginsTerm_8 : decode cX7_beginsTerm 8 = .ok (.ifCond .ne 6, 3) := by decide +kernel
theorem dX7_beginsTerm_11 : decode cX7_beginsTerm 11 = .ok (.ldc 110, 2) := by decide +kernel
theorem dX7_beginsTerm_13 : decode cX7_beginsTerm 13 = .ok (.ireturn, 1) := by decide +kernel
theorem dX7_beginsTerm_14 : decode cX7_beginsTerm 14 = .ok (.aload_n 0, 1) := by decide +kernel
theorem dX7_beginsTerm_15 : decode cX7_beginsTerm 15 = .ok (.getfield 7, 3) := by decide +kernel
theorem dX7_beginsTerm_18 : decode cX7_beginsTerm 18 = .ok (.sipush 550, 3) := by decide +kernel
theorem dX7_beginsTerm_21 : decode cX7_beginsTerm 21 = .ok (.dup2, 1) := by decide +kernel
theorem dX7_beginsTerm_22 : decode cX7_beginsTerm 22 = .ok (.iaload, 1) := by decide +kernel
theorem dX7_beginsTerm_23 : decode cX7_beginsTerm 23 = .ok (.aload_n 0, 1) := by decide +kernel
theorem dX7_beginsTerm_24 : decode cX7_beginsTerm 24 = .ok (.invokevirtual 128, 3) := by decide +kernel
theorem dX7_beginsTerm_27 : decode cX7_beginsTerm 27 = .ok (.iadd, 1) := by decide +kernel
theorem dX7_beginsTerm_28 : decode cX7_beginsTerm 28 = .ok (.iastore, 1) := by decide +kernel
theorem dX7_beginsTerm_29 : decode cX7_beginsTerm 29 = .ok (.iconst 0, 1) := by decide +kernel
theorem dX7_beginsTerm_30 : decode cX7_beginsTerm 30 = .ok (.istore_n 1, 1) := by decide +kernel
theorem dX7_beginsTerm_31 : decode cX7_beginsTerm 31 = .ok (.iload_n 1, 1) := by decide +kernel
theorem dX7_beginsTerm_32 : decode cX7_beginsTerm 32 = .ok (.aload_n 0, 1) := by decide +kernel
theorem dX7_beginsTerm_33 : decode cX7_beginsTerm 33 = .ok (.getfield 7, 3) := by decide +kernel
theorem dX7_beginsTerm_36 : decode cX7_beginsTerm 36 = .ok (.iconst 0, 1) := by decide +kernel
theorem dX7_beginsTerm_37 : decode cX7_beginsTerm 37 = .ok (.iaload, 1) := by decide +kernel
theorem dX7_beginsTerm_38 : decode cX7_beginsTerm 38 = .ok (.if_icmp .ge 69, 3) := by decide +kernel
theorem dX7_beginsTerm_41 : decode cX7_beginsTerm 41 = .ok (.aload_n 0, 1) := by decide +kernel
theorem dX7_beginsTerm_42 : decode cX7_beginsTerm 42 = .ok (.getfield 7, 3) := by decide +kernel
theorem dX7_beginsTerm_45 : decode cX7_beginsTerm 45 = .ok (.iload_n 1, 1) := by decide +kernel
theorem dX7_beginsTerm_46 : decode cX7_beginsTerm 46 = .ok (.bipush 6, 2) := by decide +kernel
theorem dX7_beginsTerm_48 : decode cX7_beginsTerm 48 = .ok (.invokestatic 40, 3) := by decide +kernel
theorem dX7_beginsTerm_51 : decode cX7_beginsTerm 51 = .ok (.iconst 0, 1) := by decide +kernel
theorem dX7_beginsTerm_52 : decode cX7_beginsTerm 52 = .ok (.iastore, 1) := by decide +kernel
theorem dX7_beginsTerm_53 : decode cX7_beginsTerm 53 = .ok (.aload_n 0, 1) := by decide +kernel
theorem dX7_beginsTerm_54 : decode cX7_beginsTerm 54 = .ok (.getfield 7, 3) := by decide +kernel
theorem dX7_beginsTerm_57 : decode cX7_beginsTerm 57 = .ok (.iload_n 1, 1) := by decide +kernel
theorem dX7_beginsTerm_58 : decode cX7_beginsTerm 58 = .ok (.bipush 7, 2) := by decide +kernel
theorem dX7_beginsTerm_60 : decode cX7_beginsTerm 60 = .ok (.invokestatic 40, 3) := by decide +kernel
theorem dX7_beginsTerm_63 : decode cX7_beginsTerm 63 = .ok (.iconst (-1), 1) := by decide +kernel
theorem dX7_beginsTerm_64 : decode cX7_beginsTerm 64 = .ok (.iastore, 1) := by decide +kernel
theorem dX7_beginsTerm_65 : decode cX7_beginsTerm 65 = .ok (.aload_n 0, 1) := by decide +kernel
theorem dX7_beginsTerm_66 : decode cX7_beginsTerm 66 = .ok (.getfield 7, 3) := by decide +kernel
theorem dX7_beginsTerm_69 : decode cX7_beginsTerm 69 = .ok (.iload_n 1, 1) := by decide +kernel
theorem dX7_beginsTerm_70 : decode cX7_beginsTerm 70 = .ok (.bipush 8, 2) := by decide +kernel
theorem dX7_beginsTerm_72 : decode cX7_beginsTerm 72 = .ok (.invokestatic 40, 3) := by decide +kernel
theorem dX7_beginsTerm_75 : decode cX7_beginsTerm 75 = .ok (.iconst (-1), 1) := by decide +kernel
theorem dX7_beginsTerm_76 : decode cX7_beginsTerm 76 = .ok (.iastore, 1) := by decide +kernel
theorem dX7_beginsTerm_77 : decode cX7_beginsTerm 77 = .ok (.aload_n 0, 1) := by decide +kernel
theorem dX7_beginsTerm_78 : decode cX7_beginsTerm 78 = .ok (.getfield 7, 3) := by decide +kernel
theorem dX7_beginsTerm_81 : decode cX7_beginsTerm 81 = .ok (.iload_n 1, 1) := by decide +kernel
theorem dX7_beginsTerm_82 : decode cX7_beginsTerm 82 = .ok (.bipush 9, 2) := by decide +kernel
theorem dX7_beginsTerm_84 : decode cX7_beginsTerm 84 = .ok (.invokestatic 40, 3) := by decide +kernel
theorem dX7_beginsTerm_87 : decode cX7_beginsTerm 87 = .ok (.iconst 0, 1) := by decide +kernel
theorem dX7_beginsTerm_88 : decode cX7_beginsTerm 88 = .ok (.iastore, 1) := by decide +kernel
theorem dX7_beginsTerm_89 : decode cX7_beginsTerm 89 = .ok (.aload_n 0, 1) := by decide +kernel
theorem dX7_beginsTerm_90 : decode cX7_beginsTerm 90 = .ok (.getfield 7, 3) := by decide +kernel
theorem dX7_beginsTerm_93 : decode cX7_beginsTerm 93 = .ok (.iload_n 1, 1) := by decide +kernel
theorem dX7_beginsTerm_94 : decode cX7_beginsTerm 94 = .ok (.bipush 10, 2) := by decide +kernel
theorem dX7_beginsTerm_96 : decode cX7_beginsTerm 96 = .ok (.invokestatic 40, 3) := by decide +kernel
theorem dX7_beginsTerm_99 : decode cX7_beginsTerm 99 = .ok (.iconst 0, 1) := by decide +kernel
theorem dX7_beginsTerm_100 : decode cX7_beginsTerm 100 = .ok (.iastore, 1) := by decide +kernel
theorem dX7_beginsTerm_101 : decode cX7_beginsTerm 101 = .ok (.iinc 1 1, 3) := by decide +kernel
theorem dX7_beginsTerm_104 : decode cX7_beginsTerm 104 = .ok (.goto (-73), 3) := by decide +kernel
theorem dX7_beginsTerm_107 : decode cX7_beginsTerm 107 = .ok (.aload_n 0, 1) := by decide +kernel
theorem dX7_beginsTerm_108 : decode cX7_beginsTerm 108 = .ok (.getfield 7, 3) := by decide +kernel
theorem dX7_beginsTerm_111 : decode cX7_beginsTerm 111 = .ok (.sipush 335, 3) := by decide +kernel
theorem dX7_beginsTerm_114 : decode cX7_beginsTerm 114 = .ok (.iconst 0, 1) := by decide +kernel
theorem dX7_beginsTerm_115 : decode cX7_beginsTerm 115 = .ok (.iastore, 1) := by decide +kernel
theorem dX7_beginsTerm_116 : decode cX7_beginsTerm 116 = .ok (.aload_n 0, 1) := by decide +kernel
theorem dX7_beginsTerm_117 : decode cX7_beginsTerm 117 = .ok (.getfield 7, 3) := by decide +kernel
theorem dX7_beginsTerm_120 : decode cX7_beginsTerm 120 = .ok (.sipush 547, 3) := by decide +kernel
theorem dX7_beginsTerm_123 : decode cX7_beginsTerm 123 = .ok (.iconst 0, 1) := by decide +kernel
theorem dX7_beginsTerm_124 : decode cX7_beginsTerm 124 = .ok (.iastore, 1) := by decide +kernel
theorem dX7_beginsTerm_125 : decode cX7_beginsTerm 125 = .ok (.aload_n 0, 1) := by decide +kernel
theorem dX7_beginsTerm_126 : decode cX7_beginsTerm 126 = .ok (.getfield 7, 3) := by decide +kernel
theorem dX7_beginsTerm_129 : decode cX7_beginsTerm 129 = .ok (.sipush 546, 3) := by decide +kernel
theorem dX7_beginsTerm_132 : decode cX7_beginsTerm 132 = .ok (.dup2, 1) := by decide +kernel
theorem dX7_beginsTerm_133 : decode cX7_beginsTerm 133 = .ok (.iaload, 1) := by decide +kernel
theorem dX7_beginsTerm_134 : decode cX7_beginsTerm 134 = .ok (.iconst 1, 1) := by decide +kernel
theorem dX7_beginsTerm_135 : decode cX7_beginsTerm 135 = .ok (.iadd, 1) := by decide +kernel
theorem dX7_beginsTerm_136 : decode cX7_beginsTerm 136 = .ok (.iastore, 1) := by decide +kernel
theorem dX7_beginsTerm_137 : decode cX7_beginsTerm 137 = .ok (.aload_n 0, 1) := by decide +kernel
theorem dX7_beginsTerm_138 : decode cX7_beginsTerm 138 = .ok (.getfield 7, 3) := by decide +kernel
theorem dX7_beginsTerm_141 : decode cX7_beginsTerm 141 = .ok (.sipush 546, 3) := by decide +kernel
theorem dX7_beginsTerm_144 : decode cX7_beginsTerm 144 = .ok (.iaload, 1) := by decide +kernel
theorem dX7_beginsTerm_145 : decode cX7_beginsTerm 145 = .ok (.ireturn, 1) := by decide +kernel
theorem dX7_course_0 : decode cX7_course 0 = .ok (.iload_n 1, 1) := by decide +kernel
theorem dX7_course_1 : decode cX7_course 1 = .ok (.iconst 0, 1) := by decide +kernel
theorem dX7_course_2 : decode cX7_course 2 = .ok (.bipush 79, 2) := by decide +kernel
theorem dX7_course_4 : decode cX7_course 4 = .ok (.invokestatic 32, 3) := by decide +kernel
theorem dX7_course_7 : decode cX7_course 7 = .ok (.ifCond .eq 34, 3) := by decide +kernel
theorem dX7_course_10 : decode cX7_course 10 = .ok (.iload_n 2, 1) := by decide +kernel
theorem dX7_course_11 : decode cX7_course 11 = .ok (.iconst 1, 1) := by decide +kernel
theorem dX7_course_12 : decode cX7_course 12 = .ok (.bipush 20, 2) := by decide +kernel
theorem dX7_course_14 : decode cX7_course 14 = .ok (.invokestatic 32, 3) := by decide +kernel
theorem dX7_course_17 : decode cX7_course 17 = .ok (.ifCond .eq 24, 3) := by decide +kernel
theorem dX7_course_20 : decode cX7_course 20 = .ok (.iload_n 3, 1) := by decide +kernel
theorem dX7_course_21 : decode cX7_course 21 = .ok (.iload_n 2, 1) := by decide +kernel
theorem dX7_course_22 : decode cX7_course 22 = .ok (.bipush 20, 2) := by decide +kernel
theorem dX7_course_24 : decode cX7_course 24 = .ok (.invokestatic 32, 3) := by decide +kernel
theorem dX7_course_27 : decode cX7_course 27 = .ok (.ifCond .eq 14, 3) := by decide +kernel
theorem dX7_course_30 : decode cX7_course 30 = .ok (.iload 4, 2) := by decide +kernel
theorem dX7_course_32 : decode cX7_course 32 = .ok (.iconst 0, 1) := by decide +kernel
theorem dX7_course_33 : decode cX7_course 33 = .ok (.bipush 99, 2) := by decide +kernel
theorem dX7_course_35 : decode cX7_course 35 = .ok (.invokestatic 32, 3) := by decide +kernel
theorem dX7_course_38 : decode cX7_course 38 = .ok (.ifCond .ne 6, 3) := by decide +kernel
theorem dX7_course_41 : decode cX7_course 41 = .ok (.ldc 109, 2) := by decide +kernel
theorem dX7_course_43 : decode cX7_course 43 = .ok (.ireturn, 1) := by decide +kernel
theorem dX7_course_44 : decode cX7_course 44 = .ok (.aload_n 0, 1) := by decide +kernel
theorem dX7_course_45 : decode cX7_course 45 = .ok (.getfield 7, 3) := by decide +kernel
theorem dX7_course_48 : decode cX7_course 48 = .ok (.sipush 547, 3) := by decide +kernel
theorem dX7_course_51 : decode cX7_course 51 = .ok (.iaload, 1) := by decide +kernel
theorem dX7_course_52 : decode cX7_course 52 = .ok (.iconst 1, 1) := by decide +kernel
theorem dX7_course_53 : decode cX7_course 53 = .ok (.if_icmp .ne 6, 3) := by decide +kernel
theorem dX7_course_56 : decode cX7_course 56 = .ok (.ldc 110, 2) := by decide +kernel
theorem dX7_course_58 : decode cX7_course 58 = .ok (.ireturn, 1) := by decide +kernel
theorem dX7_course_59 : decode cX7_course 59 = .ok (.aload_n 0, 1) := by decide +kernel
theorem dX7_course_60 : decode cX7_course 60 = .ok (.getfield 7, 3) := by decide +kernel
theorem dX7_course_63 : decode cX7_course 63 = .ok (.iconst 0, 1) := by decide +kernel
theorem dX7_course_64 : decode cX7_course 64 = .ok (.iaload, 1) := by decide +kernel
theorem dX7_course_65 : decode cX7_course 65 = .ok (.bipush 8, 2) := by decide +kernel
theorem dX7_course_67 : decode cX7_course 67 = .ok (.if_icmp .ne 6, 3) := by decide +kernel
theorem dX7_course_70 : decode cX7_course 70 = .ok (.ldc 111, 2) := by decide +kernel
theorem dX7_course_72 : decode cX7_course 72 = .ok (.ireturn, 1) := by decide +kernel
theorem dX7_course_73 : decode cX7_course 73 = .ok (.aload_n 0, 1) := by decide +kernel
theorem dX7_course_74 : decode cX7_course 74 = .ok (.invokevirtual 131, 3) := by decide +kernel
theorem dX7_course_77 : decode cX7_course 77 = .ok (.aload_n 0, 1) := by decide +kernel
theorem dX7_course_78 : decode cX7_course 78 = .ok (.getfield 7, 3) := by decide +kernel
theorem dX7_course_81 : decode cX7_course 81 = .ok (.iconst 0, 1) := by decide +kernel
theorem dX7_course_82 : decode cX7_course 82 = .ok (.iaload, 1) := by decide +kernel
theorem dX7_course_83 : decode cX7_course 83 = .ok (.istore 5, 2) := by decide +kernel
theorem dX7_course_85 : decode cX7_course 85 = .ok (.aload_n 0, 1) := by decide +kernel
theorem dX7_course_86 : decode cX7_course 86 = .ok (.getfield 7, 3) := by decide +kernel
theorem dX7_course_89 : decode cX7_course 89 = .ok (.iconst 0, 1) := by decide +kernel
theorem dX7_course_90 : decode cX7_course 90 = .ok (.dup2, 1) := by decide +kernel
theorem dX7_course_91 : decode cX7_course 91 = .ok (.iaload, 1) := by decide +kernel
theorem dX7_course_92 : decode cX7_course 92 = .ok (.iconst 1, 1) := by decide +kernel
theorem dX7_course_93 : decode cX7_course 93 = .ok (.iadd, 1) := by decide +kernel
theorem dX7_course_94 : decode cX7_course 94 = .ok (.iastore, 1) := by decide +kernel
theorem dX7_course_95 : decode cX7_course 95 = .ok (.aload_n 0, 1) := by decide +kernel
theorem dX7_course_96 : decode cX7_course 96 = .ok (.getfield 7, 3) := by decide +kernel
theorem dX7_course_99 : decode cX7_course 99 = .ok (.iload 5, 2) := by decide +kernel
theorem dX7_course_101 : decode cX7_course 101 = .ok (.iconst 0, 1) := by decide +kernel
theorem dX7_course_102 : decode cX7_course 102 = .ok (.invokestatic 40, 3) := by decide +kernel
theorem dX7_course_105 : decode cX7_course 105 = .ok (.iload_n 1, 1) := by decide +kernel
theorem dX7_course_106 : decode cX7_course 106 = .ok (.iconst 4, 1) := by decide +kernel
theorem dX7_course_107 : decode cX7_course 107 = .ok (.irem, 1) := by decide +kernel
theorem dX7_course_108 : decode cX7_course 108 = .ok (.iastore, 1) := by decide +kernel
theorem dX7_course_109 : decode cX7_course 109 = .ok (.aload_n 0, 1) := by decide +kernel
theorem dX7_course_110 : decode cX7_course 110 = .ok (.getfield 7, 3) := by decide +kernel
theorem dX7_course_113 : decode cX7_course 113 = .ok (.iload 5, 2) := by decide +kernel
theorem dX7_course_115 : decode cX7_course 115 = .ok (.iconst 1, 1) := by decide +kernel
theorem dX7_course_116 : decode cX7_course 116 = .ok (.invokestatic 40, 3) := by decide +kernel
theorem dX7_course_119 : decode cX7_course 119 = .ok (.iload_n 1, 1) := by decide +kernel
theorem dX7_course_120 : decode cX7_course 120 = .ok (.iconst 4, 1) := by decide +kernel
theorem dX7_course_121 : decode cX7_course 121 = .ok (.idiv, 1) := by decide +kernel
theorem dX7_course_122 : decode cX7_course 122 = .ok (.iconst 4, 1) := by decide +kernel
theorem dX7_course_123 : decode cX7_course 123 = .ok (.irem, 1) := by decide +kernel
theorem dX7_course_124 : decode cX7_course 124 = .ok (.iastore, 1) := by decide +kernel
theorem dX7_course_125 : decode cX7_course 125 = .ok (.aload_n 0, 1) := by decide +kernel
theorem dX7_course_126 : decode cX7_course 126 = .ok (.getfield 7, 3) := by decide +kernel
theorem dX7_course_129 : decode cX7_course 129 = .ok (.iload 5, 2) := by decide +kernel
theorem dX7_course_131 : decode cX7_course 131 = .ok (.iconst 2, 1) := by decide +kernel
theorem dX7_course_132 : decode cX7_course 132 = .ok (.invokestatic 40, 3) := by decide +kernel
theorem dX7_course_135 : decode cX7_course 135 = .ok (.iload_n 1, 1) := by decide +kernel
theorem dX7_course_136 : decode cX7_course 136 = .ok (.bipush 16, 2) := by decide +kernel
theorem dX7_course_138 : decode cX7_course 138 = .ok (.idiv, 1) := by decide +kernel
theorem dX7_course_139 : decode cX7_course 139 = .ok (.iastore, 1) := by decide +kernel
theorem dX7_course_140 : decode cX7_course 140 = .ok (.aload_n 0, 1) := by decide +kernel
theorem dX7_course_141 : decode cX7_course 141 = .ok (.getfield 7, 3) := by decide +kernel
theorem dX7_course_144 : decode cX7_course 144 = .ok (.iload 5, 2) := by decide +kernel
theorem dX7_course_146 : decode cX7_course 146 = .ok (.iconst 3, 1) := by decide +kernel
theorem dX7_course_147 : decode cX7_course 147 = .ok (.invokestatic 40, 3) := by decide +kernel
theorem dX7_course_150 : decode cX7_course 150 = .ok (.iload_n 2, 1) := by decide +kernel
theorem dX7_course_151 : decode cX7_course 151 = .ok (.iastore, 1) := by decide +kernel
theorem dX7_course_152 : decode cX7_course 152 = .ok (.aload_n 0, 1) := by decide +kernel
theorem dX7_course_153 : decode cX7_course 153 = .ok (.getfield 7, 3) := by decide +kernel
theorem dX7_course_156 : decode cX7_course 156 = .ok (.iload 5, 2) := by decide +kernel
theorem dX7_course_158 : decode cX7_course 158 = .ok (.iconst 4, 1) := by decide +kernel
theorem dX7_course_159 : decode cX7_course 159 = .ok (.invokestatic 40, 3) := by decide +kernel
theorem dX7_course_162 : decode cX7_course 162 = .ok (.iload_n 3, 1) := by decide +kernel
theorem dX7_course_163 : decode cX7_course 163 = .ok (.iastore, 1) := by decide +kernel
theorem dX7_course_164 : decode cX7_course 164 = .ok (.aload_n 0, 1) := by decide +kernel
theorem dX7_course_165 : decode cX7_course 165 = .ok (.getfield 7, 3) := by decide +kernel
theorem dX7_course_168 : decode cX7_course 168 = .ok (.iload 5, 2) := by decide +kernel
theorem dX7_course_170 : decode cX7_course 170 = .ok (.iconst 5, 1) := by decide +kernel
theorem dX7_course_171 : decode cX7_course 171 = .ok (.invokestatic 40, 3) := by decide +kernel
theorem dX7_course_174 : decode cX7_course 174 = .ok (.iload 4, 2) := by decide +kernel
theorem dX7_course_176 : decode cX7_course 176 = .ok (.iastore, 1) := by decide +kernel
theorem dX7_course_177 : decode cX7_course 177 = .ok (.aload_n 0, 1) := by decide +kernel
theorem dX7_course_178 : decode cX7_course 178 = .ok (.getfield 7, 3) := by decide +kernel
theorem dX7_course_181 : decode cX7_course 181 = .ok (.iload 5, 2) := by decide +kernel
theorem dX7_course_183 : decode cX7_course 183 = .ok (.bipush 6, 2) := by decide +kernel
theorem dX7_course_185 : decode cX7_course 185 = .ok (.invokestatic 40, 3) := by decide +kernel
theorem dX7_course_188 : decode cX7_course 188 = .ok (.iconst 0, 1) := by decide +kernel
theorem dX7_course_189 : decode cX7_course 189 = .ok (.iastore, 1) := by decide +kernel
theorem dX7_course_190 : decode cX7_course 190 = .ok (.aload_n 0, 1) := by decide +kernel
theorem dX7_course_191 : decode cX7_course 191 = .ok (.getfield 7, 3) := by decide +kernel
theorem dX7_course_194 : decode cX7_course 194 = .ok (.iload 5, 2) := by decide +kernel
theorem dX7_course_196 : decode cX7_course 196 = .ok (.bipush 7, 2) := by decide +kernel
theorem dX7_course_198 : decode cX7_course 198 = .ok (.invokestatic 40, 3) := by decide +kernel
theorem dX7_course_201 : decode cX7_course 201 = .ok (.iconst (-1), 1) := by decide +kernel
theorem dX7_course_202 : decode cX7_course 202 = .ok (.iastore, 1) := by decide +kernel
theorem dX7_course_203 : decode cX7_course 203 = .ok (.aload_n 0, 1) := by decide +kernel
theorem dX7_course_204 : decode cX7_course 204 = .ok (.getfield 7, 3) := by decide +kernel
theorem dX7_course_207 : decode cX7_course 207 = .ok (.iload 5, 2) := by decide +kernel
theorem dX7_course_209 : decode cX7_course 209 = .ok (.bipush 8, 2) := by decide +kernel
theorem dX7_course_211 : decode cX7_course 211 = .ok (.invokestatic 40, 3) := by decide +kernel
theorem dX7_course_214 : decode cX7_course 214 = .ok (.iconst (-1), 1) := by decide +kernel
theorem dX7_course_215 : decode cX7_course 215 = .ok (.iastore, 1) := by decide +kernel
theorem dX7_course_216 : decode cX7_course 216 = .ok (.aload_n 0, 1) := by decide +kernel
theorem dX7_course_217 : decode cX7_course 217 = .ok (.getfield 7, 3) := by decide +kernel
theorem dX7_course_220 : decode cX7_course 220 = .ok (.iload 5, 2) := by decide +kernel
theorem dX7_course_222 : decode cX7_course 222 = .ok (.bipush 9, 2) := by decide +kernel
theorem dX7_course_224 : decode cX7_course 224 = .ok (.invokestatic 40, 3) := by decide +kernel
theorem dX7_course_227 : decode cX7_course 227 = .ok (.iconst 0, 1) := by decide +kernel
theorem dX7_course_228 : decode cX7_course 228 = .ok (.iastore, 1) := by decide +kernel
theorem dX7_course_229 : decode cX7_course 229 = .ok (.aload_n 0, 1) := by decide +kernel
theorem dX7_course_230 : decode cX7_course 230 = .ok (.getfield 7, 3) := by decide +kernel
theorem dX7_course_233 : decode cX7_course 233 = .ok (.iload 5, 2) := by decide +kernel
theorem dX7_course_235 : decode cX7_course 235 = .ok (.bipush 10, 2) := by decide +kernel
theorem dX7_course_237 : decode cX7_course 237 = .ok (.invokestatic 40, 3) := by decide +kernel
theorem dX7_course_240 : decode cX7_course 240 = .ok (.iconst 0, 1) := by decide +kernel
theorem dX7_course_241 : decode cX7_course 241 = .ok (.iastore, 1) := by decide +kernel
theorem dX7_course_242 : decode cX7_course 242 = .ok (.aload_n 0, 1) := by decide +kernel
theorem dX7_course_243 : decode cX7_course 243 = .ok (.iload 5, 2) := by decide +kernel
theorem dX7_course_245 : decode cX7_course 245 = .ok (.invokevirtual 134, 3) := by decide +kernel
theorem dX7_course_248 : decode cX7_course 248 = .ok (.ireturn, 1) := by decide +kernel
theorem dX7_room_0 : decode cX7_room 0 = .ok (.iload_n 1, 1) := by decide +kernel
theorem dX7_room_1 : decode cX7_room 1 = .ok (.iconst 1, 1) := by decide +kernel
theorem dX7_room_2 : decode cX7_room 2 = .ok (.bipush 30, 2) := by decide +kernel
theorem dX7_room_4 : decode cX7_room 4 = .ok (.invokestatic 32, 3) := by decide +kernel
theorem dX7_room_7 : decode cX7_room 7 = .ok (.ifCond .ne 6, 3) := by decide +kernel
theorem dX7_room_10 : decode cX7_room 10 = .ok (.ldc 109, 2) := by decide +kernel
theorem dX7_room_12 : decode cX7_room 12 = .ok (.ireturn, 1) := by decide +kernel
theorem dX7_room_13 : decode cX7_room 13 = .ok (.aload_n 0, 1) := by decide +kernel
theorem dX7_room_14 : decode cX7_room 14 = .ok (.getfield 7, 3) := by decide +kernel
theorem dX7_room_17 : decode cX7_room 17 = .ok (.sipush 547, 3) := by decide +kernel
theorem dX7_room_20 : decode cX7_room 20 = .ok (.iaload, 1) := by decide +kernel
theorem dX7_room_21 : decode cX7_room 21 = .ok (.iconst 1, 1) := by decide +kernel
theorem dX7_room_22 : decode cX7_room 22 = .ok (.if_icmp .ne 6, 3) := by decide +kernel
theorem dX7_room_25 : decode cX7_room 25 = .ok (.ldc 110, 2) := by decide +kernel
theorem dX7_room_27 : decode cX7_room 27 = .ok (.ireturn, 1) := by decide +kernel
theorem dX7_room_28 : decode cX7_room 28 = .ok (.aload_n 0, 1) := by decide +kernel
theorem dX7_room_29 : decode cX7_room 29 = .ok (.getfield 7, 3) := by decide +kernel
theorem dX7_room_32 : decode cX7_room 32 = .ok (.sipush 329, 3) := by decide +kernel
theorem dX7_room_35 : decode cX7_room 35 = .ok (.iaload, 1) := by decide +kernel
theorem dX7_room_36 : decode cX7_room 36 = .ok (.iconst 5, 1) := by decide +kernel
theorem dX7_room_37 : decode cX7_room 37 = .ok (.if_icmp .ne 6, 3) := by decide +kernel
theorem dX7_room_40 : decode cX7_room 40 = .ok (.ldc 111, 2) := by decide +kernel
theorem dX7_room_42 : decode cX7_room 42 = .ok (.ireturn, 1) := by decide +kernel
theorem dX7_room_43 : decode cX7_room 43 = .ok (.aload_n 0, 1) := by decide +kernel
theorem dX7_room_44 : decode cX7_room 44 = .ok (.invokevirtual 131, 3) := by decide +kernel
theorem dX7_room_47 : decode cX7_room 47 = .ok (.aload_n 0, 1) := by decide +kernel
theorem dX7_room_48 : decode cX7_room 48 = .ok (.getfield 7, 3) := by decide +kernel
theorem dX7_room_51 : decode cX7_room 51 = .ok (.sipush 330, 3) := by decide +kernel
theorem dX7_room_54 : decode cX7_room 54 = .ok (.aload_n 0, 1) := by decide +kernel
theorem dX7_room_55 : decode cX7_room 55 = .ok (.getfield 7, 3) := by decide +kernel
theorem dX7_room_58 : decode cX7_room 58 = .ok (.sipush 329, 3) := by decide +kernel
theorem dX7_room_61 : decode cX7_room 61 = .ok (.iaload, 1) := by decide +kernel
theorem dX7_room_62 : decode cX7_room 62 = .ok (.iadd, 1) := by decide +kernel
theorem dX7_room_63 : decode cX7_room 63 = .ok (.iload_n 1, 1) := by decide +kernel
theorem dX7_room_64 : decode cX7_room 64 = .ok (.iastore, 1) := by decide +kernel
theorem dX7_room_65 : decode cX7_room 65 = .ok (.aload_n 0, 1) := by decide +kernel
theorem dX7_room_66 : decode cX7_room 66 = .ok (.getfield 7, 3) := by decide +kernel
theorem dX7_room_69 : decode cX7_room 69 = .ok (.sipush 329, 3) := by decide +kernel
theorem dX7_room_72 : decode cX7_room 72 = .ok (.dup2, 1) := by decide +kernel
theorem dX7_room_73 : decode cX7_room 73 = .ok (.iaload, 1) := by decide +kernel
theorem dX7_room_74 : decode cX7_room 74 = .ok (.iconst 1, 1) := by decide +kernel
theorem dX7_room_75 : decode cX7_room 75 = .ok (.iadd, 1) := by decide +kernel
theorem dX7_room_76 : decode cX7_room 76 = .ok (.iastore, 1) := by decide +kernel
theorem dX7_room_77 : decode cX7_room 77 = .ok (.aload_n 0, 1) := by decide +kernel
theorem dX7_room_78 : decode cX7_room 78 = .ok (.aload_n 0, 1) := by decide +kernel
theorem dX7_room_79 : decode cX7_room 79 = .ok (.getfield 7, 3) := by decide +kernel
theorem dX7_room_82 : decode cX7_room 82 = .ok (.sipush 329, 3) := by decide +kernel
theorem dX7_room_85 : decode cX7_room 85 = .ok (.iaload, 1) := by decide +kernel
theorem dX7_room_86 : decode cX7_room 86 = .ok (.iconst 1, 1) := by decide +kernel
theorem dX7_room_87 : decode cX7_room 87 = .ok (.isub, 1) := by decide +kernel
theorem dX7_room_88 : decode cX7_room 88 = .ok (.invokevirtual 134, 3) := by decide +kernel
theorem dX7_room_91 : decode cX7_room 91 = .ok (.ireturn, 1) := by decide +kernel
theorem dX7_join_0 : decode cX7_join 0 = .ok (.aload_n 0, 1) := by decide +kernel
theorem dX7_join_1 : decode cX7_join 1 = .ok (.invokevirtual 131, 3) := by decide +kernel
theorem dX7_join_4 : decode cX7_join 4 = .ok (.aload_n 0, 1) := by decide +kernel
theorem dX7_join_5 : decode cX7_join 5 = .ok (.aload_n 0, 1) := by decide +kernel
theorem dX7_join_6 : decode cX7_join 6 = .ok (.iload_n 1, 1) := by decide +kernel
theorem dX7_join_7 : decode cX7_join 7 = .ok (.iload_n 2, 1) := by decide +kernel
theorem dX7_join_8 : decode cX7_join 8 = .ok (.iload_n 3, 1) := by decide +kernel
theorem dX7_join_9 : decode cX7_join 9 = .ok (.invokevirtual 137, 3) := by decide +kernel
theorem dX7_join_12 : decode cX7_join 12 = .ok (.invokevirtual 134, 3) := by decide +kernel
theorem dX7_join_15 : decode cX7_join 15 = .ok (.ireturn, 1) := by decide +kernel
theorem dX7_wish_0 : decode cX7_wish 0 = .ok (.aload_n 0, 1) := by decide +kernel
theorem dX7_wish_1 : decode cX7_wish 1 = .ok (.invokevirtual 131, 3) := by decide +kernel
theorem dX7_wish_4 : decode cX7_wish 4 = .ok (.aload_n 0, 1) := by decide +kernel
theorem dX7_wish_5 : decode cX7_wish 5 = .ok (.aload_n 0, 1) := by decide +kernel
theorem dX7_wish_6 : decode cX7_wish 6 = .ok (.iload_n 1, 1) := by decide +kernel
theorem dX7_wish_7 : decode cX7_wish 7 = .ok (.iload_n 2, 1) := by decide +kernel
theorem dX7_wish_8 : decode cX7_wish 8 = .ok (.iload_n 3, 1) := by decide +kernel
theorem dX7_wish_9 : decode cX7_wish 9 = .ok (.iload 4, 2) := by decide +kernel
theorem dX7_wish_11 : decode cX7_wish 11 = .ok (.invokevirtual 141, 3) := by decide +kernel
theorem dX7_wish_14 : decode cX7_wish 14 = .ok (.invokevirtual 134, 3) := by decide +kernel
theorem dX7_wish_17 : decode cX7_wish 17 = .ok (.ireturn, 1) := by decide +kernel
theorem dX7_leave_0 : decode cX7_leave 0 = .ok (.aload_n 0, 1) := by decide +kernel
theorem dX7_leave_1 : decode cX7_leave 1 = .ok (.invokevirtual 131, 3) := by decide +kernel
theorem dX7_leave_4 : decode cX7_leave 4 = .ok (.aload_n 0, 1) := by decide +kernel
theorem dX7_leave_5 : decode cX7_leave 5 = .ok (.aload_n 0, 1) := by decide +kernel
theorem dX7_leave_6 : decode cX7_leave 6 = .ok (.iload_n 1, 1) := by decide +kernel
theorem dX7_leave_7 : decode cX7_leave 7 = .ok (.invokevirtual 145, 3) := by decide +kernel
theorem dX7_leave_10 : decode cX7_leave 10 = .ok (.invokevirtual 134, 3) := by decide +kernel
theorem dX7_leave_13 : decode cX7_leave 13 = .ok (.ireturn, 1) := by decide +kernel
theorem dX7_close_0 : decode cX7_close 0 = .ok (.aload_n 0, 1) := by decide +kernel
theorem dX7_close_1 : decode cX7_close 1 = .ok (.invokevirtual 131, 3) := by decide +kernel
theorem dX7_close_4 : decode cX7_close 4 = .ok (.aload_n 0, 1) := by decide +kernel
theorem dX7_close_5 : decode cX7_close 5 = .ok (.aload_n 0, 1) := by decide +kernel
theorem dX7_close_6 : decode cX7_close 6 = .ok (.invokevirtual 148, 3) := by decide +kernel
theorem dX7_close_9 : decode cX7_close 9 = .ok (.invokevirtual 134, 3) := by decide +kernel
theorem dX7_close_12 : decode cX7_close 12 = .ok (.ireturn, 1) := by decide +kernel
theorem dX7_term_0 : decode cX7_term 0 = .ok (.aload_n 0, 1) := by decide +kernel
theorem dX7_term_1 : decode cX7_term 1 = .ok (.invokevirtual 131, 3) := by decide +kernel
theorem dX7_term_4 : decode cX7_term 4 = .ok (.aload_n 0, 1) := by decide +kernel
theorem dX7_term_5 : decode cX7_term 5 = .ok (.aload_n 0, 1) := by decide +kernel
theorem dX7_term_6 : decode cX7_term 6 = .ok (.invokevirtual 151, 3) := by decide +kernel
theorem dX7_term_9 : decode cX7_term 9 = .ok (.invokevirtual 134, 3) := by decide +kernel
theorem dX7_term_12 : decode cX7_term 12 = .ok (.ireturn, 1) := by decide +kernel
theorem dX7_waitsFor_0 : decode cX7_waitsFor 0 = .ok (.aload_n 0, 1) := by decide +kernel
theorem dX7_waitsFor_1 : decode cX7_waitsFor 1 = .ok (.iload_n 1, 1) := by decide +kernel
theorem dX7_waitsFor_2 : decode cX7_waitsFor 2 = .ok (.invokevirtual 54, 3) := by decide +kernel
theorem dX7_waitsFor_5 : decode cX7_waitsFor 5 = .ok (.ifCond .eq 31, 3) := by decide +kernel
theorem dX7_waitsFor_8 : decode cX7_waitsFor 8 = .ok (.aload_n 0, 1) := by decide +kernel
theorem dX7_waitsFor_9 : decode cX7_waitsFor 9 = .ok (.iload_n 1, 1) := by decide +kernel
theorem dX7_waitsFor_10 : decode cX7_waitsFor 10 = .ok (.iload_n 2, 1) := by decide +kernel
theorem dX7_waitsFor_11 : decode cX7_waitsFor 11 = .ok (.invokevirtual 51, 3) := by decide +kernel
theorem dX7_waitsFor_14 : decode cX7_waitsFor 14 = .ok (.iconst 3, 1) := by decide +kernel
theorem dX7_waitsFor_15 : decode cX7_waitsFor 15 = .ok (.if_icmp .ge 21, 3) := by decide +kernel
theorem dX7_waitsFor_18 : decode cX7_waitsFor 18 = .ok (.aload_n 0, 1) := by decide +kernel
theorem dX7_waitsFor_19 : decode cX7_waitsFor 19 = .ok (.iload_n 1, 1) := by decide +kernel
theorem dX7_waitsFor_20 : decode cX7_waitsFor 20 = .ok (.iload_n 2, 1) := by decide +kernel
theorem dX7_waitsFor_21 : decode cX7_waitsFor 21 = .ok (.invokevirtual 51, 3) := by decide +kernel
theorem dX7_waitsFor_24 : decode cX7_waitsFor 24 = .ok (.aload_n 0, 1) := by decide +kernel
theorem dX7_waitsFor_25 : decode cX7_waitsFor 25 = .ok (.iload_n 1, 1) := by decide +kernel
theorem dX7_waitsFor_26 : decode cX7_waitsFor 26 = .ok (.invokevirtual 57, 3) := by decide +kernel
theorem dX7_waitsFor_29 : decode cX7_waitsFor 29 = .ok (.if_icmp .ge 7, 3) := by decide +kernel
theorem dX7_waitsFor_32 : decode cX7_waitsFor 32 = .ok (.iconst 1, 1) := by decide +kernel
theorem dX7_waitsFor_33 : decode cX7_waitsFor 33 = .ok (.goto 4, 3) := by decide +kernel
theorem dX7_waitsFor_36 : decode cX7_waitsFor 36 = .ok (.iconst 0, 1) := by decide +kernel
theorem dX7_waitsFor_37 : decode cX7_waitsFor 37 = .ok (.ireturn, 1) := by decide +kernel
theorem dX7_waiting_0 : decode cX7_waiting 0 = .ok (.iconst 0, 1) := by decide +kernel
theorem dX7_waiting_1 : decode cX7_waiting 1 = .ok (.istore_n 2, 1) := by decide +kernel
theorem dX7_waiting_2 : decode cX7_waiting 2 = .ok (.iconst 0, 1) := by decide +kernel
theorem dX7_waiting_3 : decode cX7_waiting 3 = .ok (.istore_n 3, 1) := by decide +kernel
theorem dX7_waiting_4 : decode cX7_waiting 4 = .ok (.iload_n 3, 1) := by decide +kernel
theorem dX7_waiting_5 : decode cX7_waiting 5 = .ok (.aload_n 0, 1) := by decide +kernel
theorem dX7_waiting_6 : decode cX7_waiting 6 = .ok (.getfield 7, 3) := by decide +kernel
theorem dX7_waiting_9 : decode cX7_waiting 9 = .ok (.sipush 335, 3) := by decide +kernel
theorem dX7_waiting_12 : decode cX7_waiting 12 = .ok (.iaload, 1) := by decide +kernel
theorem dX7_waiting_13 : decode cX7_waiting 13 = .ok (.if_icmp .ge 26, 3) := by decide +kernel
theorem dX7_waiting_16 : decode cX7_waiting 16 = .ok (.iload_n 2, 1) := by decide +kernel
theorem dX7_waiting_17 : decode cX7_waiting 17 = .ok (.aload_n 0, 1) := by decide +kernel
theorem dX7_waiting_18 : decode cX7_waiting 18 = .ok (.iload_n 3, 1) := by decide +kernel
theorem dX7_waiting_19 : decode cX7_waiting 19 = .ok (.iload_n 1, 1) := by decide +kernel
theorem dX7_waiting_20 : decode cX7_waiting 20 = .ok (.invokevirtual 154, 3) := by decide +kernel
theorem dX7_waiting_23 : decode cX7_waiting 23 = .ok (.ifCond .eq 7, 3) := by decide +kernel
theorem dX7_waiting_26 : decode cX7_waiting 26 = .ok (.iconst 1, 1) := by decide +kernel
theorem dX7_waiting_27 : decode cX7_waiting 27 = .ok (.goto 4, 3) := by decide +kernel
theorem dX7_waiting_30 : decode cX7_waiting 30 = .ok (.iconst 0, 1) := by decide +kernel
theorem dX7_waiting_31 : decode cX7_waiting 31 = .ok (.iadd, 1) := by decide +kernel
theorem dX7_waiting_32 : decode cX7_waiting 32 = .ok (.istore_n 2, 1) := by decide +kernel
theorem dX7_waiting_33 : decode cX7_waiting 33 = .ok (.iinc 3 1, 3) := by decide +kernel
theorem dX7_waiting_36 : decode cX7_waiting 36 = .ok (.goto (-32), 3) := by decide +kernel
theorem dX7_waiting_39 : decode cX7_waiting 39 = .ok (.iload_n 2, 1) := by decide +kernel
theorem dX7_waiting_40 : decode cX7_waiting 40 = .ok (.ireturn, 1) := by decide +kernel
theorem dX7_told_0 : decode cX7_told 0 = .ok (.iload_n 0, 1) := by decide +kernel
theorem dX7_told_1 : decode cX7_told 1 = .ok (.ifCond .ge 8, 3) := by decide +kernel
theorem dX7_told_4 : decode cX7_told 4 = .ok (.ldc 157, 2) := by decide +kernel
theorem dX7_told_6 : decode cX7_told 6 = .ok (.goto 4, 3) := by decide +kernel
theorem dX7_told_9 : decode cX7_told 9 = .ok (.iload_n 0, 1) := by decide +kernel
theorem dX7_told_10 : decode cX7_told 10 = .ok (.ireturn, 1) := by decide +kernel
theorem dX7_courseOf_0 : decode cX7_courseOf 0 = .ok (.aload_n 0, 1) := by decide +kernel
theorem dX7_courseOf_1 : decode cX7_courseOf 1 = .ok (.iload_n 1, 1) := by decide +kernel
theorem dX7_courseOf_2 : decode cX7_courseOf 2 = .ok (.invokevirtual 103, 3) := by decide +kernel
theorem dX7_courseOf_5 : decode cX7_courseOf 5 = .ok (.ifCond .eq 13, 3) := by decide +kernel
theorem dX7_courseOf_8 : decode cX7_courseOf 8 = .ok (.iload_n 2, 1) := by decide +kernel
theorem dX7_courseOf_9 : decode cX7_courseOf 9 = .ok (.iconst 0, 1) := by decide +kernel
theorem dX7_courseOf_10 : decode cX7_courseOf 10 = .ok (.bipush 12, 2) := by decide +kernel
theorem dX7_courseOf_12 : decode cX7_courseOf 12 = .ok (.invokestatic 32, 3) := by decide +kernel
theorem dX7_courseOf_15 : decode cX7_courseOf 15 = .ok (.ifCond .ne 6, 3) := by decide +kernel
theorem dX7_courseOf_18 : decode cX7_courseOf 18 = .ok (.ldc 109, 2) := by decide +kernel
theorem dX7_courseOf_20 : decode cX7_courseOf 20 = .ok (.ireturn, 1) := by decide +kernel
theorem dX7_courseOf_21 : decode cX7_courseOf 21 = .ok (.aload_n 0, 1) := by decide +kernel
theorem dX7_courseOf_22 : decode cX7_courseOf 22 = .ok (.getfield 7, 3) := by decide +kernel
theorem dX7_courseOf_25 : decode cX7_courseOf 25 = .ok (.iload_n 1, 1) := by decide +kernel
theorem dX7_courseOf_26 : decode cX7_courseOf 26 = .ok (.iconst 3, 1) := by decide +kernel
theorem dX7_courseOf_27 : decode cX7_courseOf 27 = .ok (.invokestatic 40, 3) := by decide +kernel
theorem dX7_courseOf_30 : decode cX7_courseOf 30 = .ok (.iaload, 1) := by decide +kernel
theorem dX7_courseOf_31 : decode cX7_courseOf 31 = .ok (.aload_n 0, 1) := by decide +kernel
theorem dX7_courseOf_32 : decode cX7_courseOf 32 = .ok (.iload_n 1, 1) := by decide +kernel
theorem dX7_courseOf_33 : decode cX7_courseOf 33 = .ok (.invokevirtual 47, 3) := by decide +kernel
theorem dX7_courseOf_36 : decode cX7_courseOf 36 = .ok (.isub, 1) := by decide +kernel
theorem dX7_courseOf_37 : decode cX7_courseOf 37 = .ok (.istore_n 3, 1) := by decide +kernel
theorem dX7_courseOf_38 : decode cX7_courseOf 38 = .ok (.iload_n 2, 1) := by decide +kernel
theorem dX7_courseOf_39 : decode cX7_courseOf 39 = .ok (.tableswitch 101 7 12 #[37, 43, 49, 64, 79, 89], 37) := by decide +kernel
theorem dX7_courseOf_76 : decode cX7_courseOf 76 = .ok (.aload_n 0, 1) := by decide +kernel
theorem dX7_courseOf_77 : decode cX7_courseOf 77 = .ok (.iload_n 1, 1) := by decide +kernel
theorem dX7_courseOf_78 : decode cX7_courseOf 78 = .ok (.invokevirtual 47, 3) := by decide +kernel
theorem dX7_courseOf_81 : decode cX7_courseOf 81 = .ok (.ireturn, 1) := by decide +kernel
theorem dX7_courseOf_82 : decode cX7_courseOf 82 = .ok (.aload_n 0, 1) := by decide +kernel
theorem dX7_courseOf_83 : decode cX7_courseOf 83 = .ok (.iload_n 1, 1) := by decide +kernel
theorem dX7_courseOf_84 : decode cX7_courseOf 84 = .ok (.invokevirtual 158, 3) := by decide +kernel
theorem dX7_courseOf_87 : decode cX7_courseOf 87 = .ok (.ireturn, 1) := by decide +kernel
theorem dX7_courseOf_88 : decode cX7_courseOf 88 = .ok (.aload_n 0, 1) := by decide +kernel
theorem dX7_courseOf_89 : decode cX7_courseOf 89 = .ok (.getfield 7, 3) := by decide +kernel
theorem dX7_courseOf_92 : decode cX7_courseOf 92 = .ok (.iload_n 1, 1) := by decide +kernel
theorem dX7_courseOf_93 : decode cX7_courseOf 93 = .ok (.bipush 7, 2) := by decide +kernel
theorem dX7_courseOf_95 : decode cX7_courseOf 95 = .ok (.invokestatic 40, 3) := by decide +kernel
theorem dX7_courseOf_98 : decode cX7_courseOf 98 = .ok (.iaload, 1) := by decide +kernel
theorem dX7_courseOf_99 : decode cX7_courseOf 99 = .ok (.invokestatic 161, 3) := by decide +kernel
theorem dX7_courseOf_102 : decode cX7_courseOf 102 = .ok (.ireturn, 1) := by decide +kernel
theorem dX7_courseOf_103 : decode cX7_courseOf 103 = .ok (.aload_n 0, 1) := by decide +kernel
theorem dX7_courseOf_104 : decode cX7_courseOf 104 = .ok (.getfield 7, 3) := by decide +kernel
theorem dX7_courseOf_107 : decode cX7_courseOf 107 = .ok (.iload_n 1, 1) := by decide +kernel
theorem dX7_courseOf_108 : decode cX7_courseOf 108 = .ok (.bipush 8, 2) := by decide +kernel
theorem dX7_courseOf_110 : decode cX7_courseOf 110 = .ok (.invokestatic 40, 3) := by decide +kernel
theorem dX7_courseOf_113 : decode cX7_courseOf 113 = .ok (.iaload, 1) := by decide +kernel
theorem dX7_courseOf_114 : decode cX7_courseOf 114 = .ok (.invokestatic 161, 3) := by decide +kernel
theorem dX7_courseOf_117 : decode cX7_courseOf 117 = .ok (.ireturn, 1) := by decide +kernel
theorem dX7_courseOf_118 : decode cX7_courseOf 118 = .ok (.iload_n 3, 1) := by decide +kernel
theorem dX7_courseOf_119 : decode cX7_courseOf 119 = .ok (.ifCond .ge 7, 3) := by decide +kernel
theorem dX7_courseOf_122 : decode cX7_courseOf 122 = .ok (.iconst 0, 1) := by decide +kernel
theorem dX7_courseOf_123 : decode cX7_courseOf 123 = .ok (.goto 4, 3) := by decide +kernel
theorem dX7_courseOf_126 : decode cX7_courseOf 126 = .ok (.iload_n 3, 1) := by decide +kernel
theorem dX7_courseOf_127 : decode cX7_courseOf 127 = .ok (.ireturn, 1) := by decide +kernel
theorem dX7_courseOf_128 : decode cX7_courseOf 128 = .ok (.aload_n 0, 1) := by decide +kernel
theorem dX7_courseOf_129 : decode cX7_courseOf 129 = .ok (.getfield 7, 3) := by decide +kernel
theorem dX7_courseOf_132 : decode cX7_courseOf 132 = .ok (.iload_n 1, 1) := by decide +kernel
theorem dX7_courseOf_133 : decode cX7_courseOf 133 = .ok (.bipush 9, 2) := by decide +kernel
theorem dX7_courseOf_135 : decode cX7_courseOf 135 = .ok (.invokestatic 40, 3) := by decide +kernel
theorem dX7_courseOf_138 : decode cX7_courseOf 138 = .ok (.iaload, 1) := by decide +kernel
theorem dX7_courseOf_139 : decode cX7_courseOf 139 = .ok (.ireturn, 1) := by decide +kernel
theorem dX7_courseOf_140 : decode cX7_courseOf 140 = .ok (.aload_n 0, 1) := by decide +kernel
theorem dX7_courseOf_141 : decode cX7_courseOf 141 = .ok (.getfield 7, 3) := by decide +kernel
theorem dX7_courseOf_144 : decode cX7_courseOf 144 = .ok (.iload_n 1, 1) := by decide +kernel
theorem dX7_courseOf_145 : decode cX7_courseOf 145 = .ok (.iload_n 2, 1) := by decide +kernel
theorem dX7_courseOf_146 : decode cX7_courseOf 146 = .ok (.invokestatic 40, 3) := by decide +kernel
theorem dX7_courseOf_149 : decode cX7_courseOf 149 = .ok (.iaload, 1) := by decide +kernel
theorem dX7_courseOf_150 : decode cX7_courseOf 150 = .ok (.ireturn, 1) := by decide +kernel
theorem dX7_member_0 : decode cX7_member 0 = .ok (.aload_n 0, 1) := by decide +kernel
theorem dX7_member_1 : decode cX7_member 1 = .ok (.iload_n 1, 1) := by decide +kernel
theorem dX7_member_2 : decode cX7_member 2 = .ok (.invokevirtual 103, 3) := by decide +kernel
theorem dX7_member_5 : decode cX7_member 5 = .ok (.ifCond .eq 7, 3) := by decide +kernel
theorem dX7_member_8 : decode cX7_member 8 = .ok (.iload_n 2, 1) := by decide +kernel
theorem dX7_member_9 : decode cX7_member 9 = .ok (.ifCond .ge 6, 3) := by decide +kernel
theorem dX7_member_12 : decode cX7_member 12 = .ok (.ldc 109, 2) := by decide +kernel
theorem dX7_member_14 : decode cX7_member 14 = .ok (.ireturn, 1) := by decide +kernel
theorem dX7_member_15 : decode cX7_member 15 = .ok (.iload_n 2, 1) := by decide +kernel
theorem dX7_member_16 : decode cX7_member 16 = .ok (.aload_n 0, 1) := by decide +kernel
theorem dX7_member_17 : decode cX7_member 17 = .ok (.iload_n 1, 1) := by decide +kernel
theorem dX7_member_18 : decode cX7_member 18 = .ok (.invokevirtual 47, 3) := by decide +kernel
theorem dX7_member_21 : decode cX7_member 21 = .ok (.if_icmp .ge 19, 3) := by decide +kernel
theorem dX7_member_24 : decode cX7_member 24 = .ok (.aload_n 0, 1) := by decide +kernel
theorem dX7_member_25 : decode cX7_member 25 = .ok (.getfield 7, 3) := by decide +kernel
theorem dX7_member_28 : decode cX7_member 28 = .ok (.iload_n 1, 1) := by decide +kernel
theorem dX7_member_29 : decode cX7_member 29 = .ok (.bipush 11, 2) := by decide +kernel
theorem dX7_member_31 : decode cX7_member 31 = .ok (.iload_n 2, 1) := by decide +kernel
theorem dX7_member_32 : decode cX7_member 32 = .ok (.iadd, 1) := by decide +kernel
theorem dX7_member_33 : decode cX7_member 33 = .ok (.invokestatic 40, 3) := by decide +kernel
theorem dX7_member_36 : decode cX7_member 36 = .ok (.iaload, 1) := by decide +kernel
theorem dX7_member_37 : decode cX7_member 37 = .ok (.goto 5, 3) := by decide +kernel
theorem dX7_member_40 : decode cX7_member 40 = .ok (.ldc 157, 2) := by decide +kernel
theorem dX7_member_42 : decode cX7_member 42 = .ok (.ireturn, 1) := by decide +kernel
theorem dX7_waits_0 : decode cX7_waits 0 = .ok (.aload_n 0, 1) := by decide +kernel
theorem dX7_waits_1 : decode cX7_waits 1 = .ok (.iload_n 1, 1) := by decide +kernel
theorem dX7_waits_2 : decode cX7_waits 2 = .ok (.invokevirtual 103, 3) := by decide +kernel
theorem dX7_waits_5 : decode cX7_waits 5 = .ok (.ifCond .eq 7, 3) := by decide +kernel
theorem dX7_waits_8 : decode cX7_waits 8 = .ok (.iload_n 2, 1) := by decide +kernel
theorem dX7_waits_9 : decode cX7_waits 9 = .ok (.ifCond .ge 6, 3) := by decide +kernel
theorem dX7_waits_12 : decode cX7_waits 12 = .ok (.ldc 109, 2) := by decide +kernel
theorem dX7_waits_14 : decode cX7_waits 14 = .ok (.ireturn, 1) := by decide +kernel
theorem dX7_waits_15 : decode cX7_waits 15 = .ok (.iload_n 2, 1) := by decide +kernel
theorem dX7_waits_16 : decode cX7_waits 16 = .ok (.istore_n 3, 1) := by decide +kernel
theorem dX7_waits_17 : decode cX7_waits 17 = .ok (.iconst 0, 1) := by decide +kernel
theorem dX7_waits_18 : decode cX7_waits 18 = .ok (.istore 4, 2) := by decide +kernel
theorem dX7_waits_20 : decode cX7_waits 20 = .ok (.iload 4, 2) := by decide +kernel
theorem dX7_waits_22 : decode cX7_waits 22 = .ok (.aload_n 0, 1) := by decide +kernel
theorem dX7_waits_23 : decode cX7_waits 23 = .ok (.getfield 7, 3) := by decide +kernel
theorem dX7_waits_26 : decode cX7_waits 26 = .ok (.sipush 335, 3) := by decide +kernel
theorem dX7_waits_29 : decode cX7_waits 29 = .ok (.iaload, 1) := by decide +kernel
theorem dX7_waits_30 : decode cX7_waits 30 = .ok (.if_icmp .ge 29, 3) := by decide +kernel
theorem dX7_waits_33 : decode cX7_waits 33 = .ok (.aload_n 0, 1) := by decide +kernel
theorem dX7_waits_34 : decode cX7_waits 34 = .ok (.iload 4, 2) := by decide +kernel
theorem dX7_waits_36 : decode cX7_waits 36 = .ok (.iload_n 1, 1) := by decide +kernel
theorem dX7_waits_37 : decode cX7_waits 37 = .ok (.invokevirtual 154, 3) := by decide +kernel
theorem dX7_waits_40 : decode cX7_waits 40 = .ok (.ifCond .eq 13, 3) := by decide +kernel
theorem dX7_waits_43 : decode cX7_waits 43 = .ok (.iload_n 3, 1) := by decide +kernel
theorem dX7_waits_44 : decode cX7_waits 44 = .ok (.ifCond .ne 6, 3) := by decide +kernel
theorem dX7_waits_47 : decode cX7_waits 47 = .ok (.iload 4, 2) := by decide +kernel
theorem dX7_waits_49 : decode cX7_waits 49 = .ok (.ireturn, 1) := by decide +kernel
theorem dX7_waits_50 : decode cX7_waits 50 = .ok (.iinc 3 (-1), 3) := by decide +kernel
theorem dX7_waits_53 : decode cX7_waits 53 = .ok (.iinc 4 1, 3) := by decide +kernel
theorem dX7_waits_56 : decode cX7_waits 56 = .ok (.goto (-36), 3) := by decide +kernel
theorem dX7_waits_59 : decode cX7_waits 59 = .ok (.ldc 157, 2) := by decide +kernel
theorem dX7_waits_61 : decode cX7_waits 61 = .ok (.ireturn, 1) := by decide +kernel
theorem dX7_personOf_0 : decode cX7_personOf 0 = .ok (.aload_n 0, 1) := by decide +kernel
theorem dX7_personOf_1 : decode cX7_personOf 1 = .ok (.iload_n 1, 1) := by decide +kernel
theorem dX7_personOf_2 : decode cX7_personOf 2 = .ok (.invokevirtual 116, 3) := by decide +kernel
theorem dX7_personOf_5 : decode cX7_personOf 5 = .ok (.ifCond .eq 13, 3) := by decide +kernel
theorem dX7_personOf_8 : decode cX7_personOf 8 = .ok (.iload_n 2, 1) := by decide +kernel
theorem dX7_personOf_9 : decode cX7_personOf 9 = .ok (.iconst 0, 1) := by decide +kernel
theorem dX7_personOf_10 : decode cX7_personOf 10 = .ok (.bipush 7, 2) := by decide +kernel
theorem dX7_personOf_12 : decode cX7_personOf 12 = .ok (.invokestatic 32, 3) := by decide +kernel
theorem dX7_personOf_15 : decode cX7_personOf 15 = .ok (.ifCond .ne 6, 3) := by decide +kernel
theorem dX7_personOf_18 : decode cX7_personOf 18 = .ok (.ldc 109, 2) := by decide +kernel
theorem dX7_personOf_20 : decode cX7_personOf 20 = .ok (.ireturn, 1) := by decide +kernel
theorem dX7_personOf_21 : decode cX7_personOf 21 = .ok (.iload_n 2, 1) := by decide +kernel
theorem dX7_personOf_22 : decode cX7_personOf 22 = .ok (.tableswitch 88 0 4 #[34, 45, 59, 65, 76], 34) := by decide +kernel
theorem dX7_personOf_56 : decode cX7_personOf 56 = .ok (.aload_n 0, 1) := by decide +kernel
theorem dX7_personOf_57 : decode cX7_personOf 57 = .ok (.getfield 7, 3) := by decide +kernel
theorem dX7_personOf_60 : decode cX7_personOf 60 = .ok (.iload_n 1, 1) := by decide +kernel
theorem dX7_personOf_61 : decode cX7_personOf 61 = .ok (.iconst 0, 1) := by decide +kernel
theorem dX7_personOf_62 : decode cX7_personOf 62 = .ok (.invokestatic 36, 3) := by decide +kernel
theorem dX7_personOf_65 : decode cX7_personOf 65 = .ok (.iaload, 1) := by decide +kernel
theorem dX7_personOf_66 : decode cX7_personOf 66 = .ok (.ireturn, 1) := by decide +kernel
theorem dX7_personOf_67 : decode cX7_personOf 67 = .ok (.aload_n 0, 1) := by decide +kernel
theorem dX7_personOf_68 : decode cX7_personOf 68 = .ok (.getfield 7, 3) := by decide +kernel
theorem dX7_personOf_71 : decode cX7_personOf 71 = .ok (.iload_n 1, 1) := by decide +kernel
theorem dX7_personOf_72 : decode cX7_personOf 72 = .ok (.iconst 4, 1) := by decide +kernel
theorem dX7_personOf_73 : decode cX7_personOf 73 = .ok (.invokestatic 36, 3) := by decide +kernel
theorem dX7_personOf_76 : decode cX7_personOf 76 = .ok (.iaload, 1) := by decide +kernel
theorem dX7_personOf_77 : decode cX7_personOf 77 = .ok (.invokestatic 161, 3) := by decide +kernel
theorem dX7_personOf_80 : decode cX7_personOf 80 = .ok (.ireturn, 1) := by decide +kernel
theorem dX7_personOf_81 : decode cX7_personOf 81 = .ok (.aload_n 0, 1) := by decide +kernel
theorem dX7_personOf_82 : decode cX7_personOf 82 = .ok (.iload_n 1, 1) := by decide +kernel
theorem dX7_personOf_83 : decode cX7_personOf 83 = .ok (.invokevirtual 57, 3) := by decide +kernel
theorem dX7_personOf_86 : decode cX7_personOf 86 = .ok (.ireturn, 1) := by decide +kernel
theorem dX7_personOf_87 : decode cX7_personOf 87 = .ok (.aload_n 0, 1) := by decide +kernel
theorem dX7_personOf_88 : decode cX7_personOf 88 = .ok (.getfield 7, 3) := by decide +kernel
theorem dX7_personOf_91 : decode cX7_personOf 91 = .ok (.iload_n 1, 1) := by decide +kernel
theorem dX7_personOf_92 : decode cX7_personOf 92 = .ok (.iconst 5, 1) := by decide +kernel
theorem dX7_personOf_93 : decode cX7_personOf 93 = .ok (.invokestatic 36, 3) := by decide +kernel
theorem dX7_personOf_96 : decode cX7_personOf 96 = .ok (.iaload, 1) := by decide +kernel
theorem dX7_personOf_97 : decode cX7_personOf 97 = .ok (.ireturn, 1) := by decide +kernel
theorem dX7_personOf_98 : decode cX7_personOf 98 = .ok (.aload_n 0, 1) := by decide +kernel
theorem dX7_personOf_99 : decode cX7_personOf 99 = .ok (.getfield 7, 3) := by decide +kernel
theorem dX7_personOf_102 : decode cX7_personOf 102 = .ok (.iload_n 1, 1) := by decide +kernel
theorem dX7_personOf_103 : decode cX7_personOf 103 = .ok (.bipush 6, 2) := by decide +kernel
theorem dX7_personOf_105 : decode cX7_personOf 105 = .ok (.invokestatic 36, 3) := by decide +kernel
theorem dX7_personOf_108 : decode cX7_personOf 108 = .ok (.iaload, 1) := by decide +kernel
theorem dX7_personOf_109 : decode cX7_personOf 109 = .ok (.ireturn, 1) := by decide +kernel
theorem dX7_personOf_110 : decode cX7_personOf 110 = .ok (.aload_n 0, 1) := by decide +kernel
theorem dX7_personOf_111 : decode cX7_personOf 111 = .ok (.getfield 7, 3) := by decide +kernel
theorem dX7_personOf_114 : decode cX7_personOf 114 = .ok (.iload_n 1, 1) := by decide +kernel
theorem dX7_personOf_115 : decode cX7_personOf 115 = .ok (.iconst 1, 1) := by decide +kernel
theorem dX7_personOf_116 : decode cX7_personOf 116 = .ok (.iload_n 2, 1) := by decide +kernel
theorem dX7_personOf_117 : decode cX7_personOf 117 = .ok (.iadd, 1) := by decide +kernel
theorem dX7_personOf_118 : decode cX7_personOf 118 = .ok (.iconst 5, 1) := by decide +kernel
theorem dX7_personOf_119 : decode cX7_personOf 119 = .ok (.isub, 1) := by decide +kernel
theorem dX7_personOf_120 : decode cX7_personOf 120 = .ok (.invokestatic 36, 3) := by decide +kernel
theorem dX7_personOf_123 : decode cX7_personOf 123 = .ok (.iaload, 1) := by decide +kernel
theorem dX7_personOf_124 : decode cX7_personOf 124 = .ok (.invokestatic 161, 3) := by decide +kernel
theorem dX7_personOf_127 : decode cX7_personOf 127 = .ok (.ireturn, 1) := by decide +kernel
theorem dX7_roomOf_0 : decode cX7_roomOf 0 = .ok (.aload_n 0, 1) := by decide +kernel
theorem dX7_roomOf_1 : decode cX7_roomOf 1 = .ok (.iload_n 1, 1) := by decide +kernel
theorem dX7_roomOf_2 : decode cX7_roomOf 2 = .ok (.invokevirtual 164, 3) := by decide +kernel
theorem dX7_roomOf_5 : decode cX7_roomOf 5 = .ok (.ifCond .eq 12, 3) := by decide +kernel
theorem dX7_roomOf_8 : decode cX7_roomOf 8 = .ok (.iload_n 2, 1) := by decide +kernel
theorem dX7_roomOf_9 : decode cX7_roomOf 9 = .ok (.iconst 0, 1) := by decide +kernel
theorem dX7_roomOf_10 : decode cX7_roomOf 10 = .ok (.iconst 2, 1) := by decide +kernel
theorem dX7_roomOf_11 : decode cX7_roomOf 11 = .ok (.invokestatic 32, 3) := by decide +kernel
theorem dX7_roomOf_14 : decode cX7_roomOf 14 = .ok (.ifCond .ne 6, 3) := by decide +kernel
theorem dX7_roomOf_17 : decode cX7_roomOf 17 = .ok (.ldc 109, 2) := by decide +kernel
theorem dX7_roomOf_19 : decode cX7_roomOf 19 = .ok (.ireturn, 1) := by decide +kernel
theorem dX7_roomOf_20 : decode cX7_roomOf 20 = .ok (.iconst 0, 1) := by decide +kernel
theorem dX7_roomOf_21 : decode cX7_roomOf 21 = .ok (.istore_n 3, 1) := by decide +kernel
theorem dX7_roomOf_22 : decode cX7_roomOf 22 = .ok (.bipush 99, 2) := by decide +kernel
theorem dX7_roomOf_24 : decode cX7_roomOf 24 = .ok (.istore 4, 2) := by decide +kernel
theorem dX7_roomOf_26 : decode cX7_roomOf 26 = .ok (.iconst 0, 1) := by decide +kernel
theorem dX7_roomOf_27 : decode cX7_roomOf 27 = .ok (.istore 5, 2) := by decide +kernel
theorem dX7_roomOf_29 : decode cX7_roomOf 29 = .ok (.iload 5, 2) := by decide +kernel
theorem dX7_roomOf_31 : decode cX7_roomOf 31 = .ok (.aload_n 0, 1) := by decide +kernel
theorem dX7_roomOf_32 : decode cX7_roomOf 32 = .ok (.getfield 7, 3) := by decide +kernel
theorem dX7_roomOf_35 : decode cX7_roomOf 35 = .ok (.iconst 0, 1) := by decide +kernel
theorem dX7_roomOf_36 : decode cX7_roomOf 36 = .ok (.iaload, 1) := by decide +kernel
theorem dX7_roomOf_37 : decode cX7_roomOf 37 = .ok (.if_icmp .ge 78, 3) := by decide +kernel
theorem dX7_roomOf_40 : decode cX7_roomOf 40 = .ok (.aload_n 0, 1) := by decide +kernel
theorem dX7_roomOf_41 : decode cX7_roomOf 41 = .ok (.getfield 7, 3) := by decide +kernel
theorem dX7_roomOf_44 : decode cX7_roomOf 44 = .ok (.iload 5, 2) := by decide +kernel
theorem dX7_roomOf_46 : decode cX7_roomOf 46 = .ok (.bipush 7, 2) := by decide +kernel
theorem dX7_roomOf_48 : decode cX7_roomOf 48 = .ok (.invokestatic 40, 3) := by decide +kernel
theorem dX7_roomOf_51 : decode cX7_roomOf 51 = .ok (.iaload, 1) := by decide +kernel
theorem dX7_roomOf_52 : decode cX7_roomOf 52 = .ok (.iload_n 1, 1) := by decide +kernel
theorem dX7_roomOf_53 : decode cX7_roomOf 53 = .ok (.if_icmp .ne 56, 3) := by decide +kernel
theorem dX7_roomOf_56 : decode cX7_roomOf 56 = .ok (.iload_n 3, 1) := by decide +kernel
theorem dX7_roomOf_57 : decode cX7_roomOf 57 = .ok (.iconst 1, 1) := by decide +kernel
theorem dX7_roomOf_58 : decode cX7_roomOf 58 = .ok (.iload 5, 2) := by decide +kernel
theorem dX7_roomOf_60 : decode cX7_roomOf 60 = .ok (.ishl, 1) := by decide +kernel
theorem dX7_roomOf_61 : decode cX7_roomOf 61 = .ok (.ior, 1) := by decide +kernel
theorem dX7_roomOf_62 : decode cX7_roomOf 62 = .ok (.istore_n 3, 1) := by decide +kernel
theorem dX7_roomOf_63 : decode cX7_roomOf 63 = .ok (.aload_n 0, 1) := by decide +kernel
theorem dX7_roomOf_64 : decode cX7_roomOf 64 = .ok (.getfield 7, 3) := by decide +kernel
theorem dX7_roomOf_67 : decode cX7_roomOf 67 = .ok (.sipush 330, 3) := by decide +kernel
theorem dX7_roomOf_70 : decode cX7_roomOf 70 = .ok (.iload_n 1, 1) := by decide +kernel
theorem dX7_roomOf_71 : decode cX7_roomOf 71 = .ok (.iadd, 1) := by decide +kernel
theorem dX7_roomOf_72 : decode cX7_roomOf 72 = .ok (.iaload, 1) := by decide +kernel
theorem dX7_roomOf_73 : decode cX7_roomOf 73 = .ok (.aload_n 0, 1) := by decide +kernel
theorem dX7_roomOf_74 : decode cX7_roomOf 74 = .ok (.iload 5, 2) := by decide +kernel
theorem dX7_roomOf_76 : decode cX7_roomOf 76 = .ok (.invokevirtual 47, 3) := by decide +kernel
theorem dX7_roomOf_79 : decode cX7_roomOf 79 = .ok (.isub, 1) := by decide +kernel
theorem dX7_roomOf_80 : decode cX7_roomOf 80 = .ok (.iload 4, 2) := by decide +kernel
theorem dX7_roomOf_82 : decode cX7_roomOf 82 = .ok (.if_icmp .ge 23, 3) := by decide +kernel
theorem dX7_roomOf_85 : decode cX7_roomOf 85 = .ok (.aload_n 0, 1) := by decide +kernel
theorem dX7_roomOf_86 : decode cX7_roomOf 86 = .ok (.getfield 7, 3) := by decide +kernel
theorem dX7_roomOf_89 : decode cX7_roomOf 89 = .ok (.sipush 330, 3) := by decide +kernel
theorem dX7_roomOf_92 : decode cX7_roomOf 92 = .ok (.iload_n 1, 1) := by decide +kernel
theorem dX7_roomOf_93 : decode cX7_roomOf 93 = .ok (.iadd, 1) := by decide +kernel
theorem dX7_roomOf_94 : decode cX7_roomOf 94 = .ok (.iaload, 1) := by decide +kernel
theorem dX7_roomOf_95 : decode cX7_roomOf 95 = .ok (.aload_n 0, 1) := by decide +kernel
theorem dX7_roomOf_96 : decode cX7_roomOf 96 = .ok (.iload 5, 2) := by decide +kernel
theorem dX7_roomOf_98 : decode cX7_roomOf 98 = .ok (.invokevirtual 47, 3) := by decide +kernel
theorem dX7_roomOf_101 : decode cX7_roomOf 101 = .ok (.isub, 1) := by decide +kernel
theorem dX7_roomOf_102 : decode cX7_roomOf 102 = .ok (.goto 5, 3) := by decide +kernel
theorem dX7_roomOf_105 : decode cX7_roomOf 105 = .ok (.iload 4, 2) := by decide +kernel
theorem dX7_roomOf_107 : decode cX7_roomOf 107 = .ok (.istore 4, 2) := by decide +kernel
theorem dX7_roomOf_109 : decode cX7_roomOf 109 = .ok (.iinc 5 1, 3) := by decide +kernel
theorem dX7_roomOf_112 : decode cX7_roomOf 112 = .ok (.goto (-83), 3) := by decide +kernel
theorem dX7_roomOf_115 : decode cX7_roomOf 115 = .ok (.iload_n 2, 1) := by decide +kernel
theorem dX7_roomOf_116 : decode cX7_roomOf 116 = .ok (.ifCond .ne 16, 3) := by decide +kernel
theorem dX7_roomOf_119 : decode cX7_roomOf 119 = .ok (.aload_n 0, 1) := by decide +kernel
theorem dX7_roomOf_120 : decode cX7_roomOf 120 = .ok (.getfield 7, 3) := by decide +kernel
theorem dX7_roomOf_123 : decode cX7_roomOf 123 = .ok (.sipush 330, 3) := by decide +kernel
theorem dX7_roomOf_126 : decode cX7_roomOf 126 = .ok (.iload_n 1, 1) := by decide +kernel
theorem dX7_roomOf_127 : decode cX7_roomOf 127 = .ok (.iadd, 1) := by decide +kernel
theorem dX7_roomOf_128 : decode cX7_roomOf 128 = .ok (.iaload, 1) := by decide +kernel
theorem dX7_roomOf_129 : decode cX7_roomOf 129 = .ok (.goto 23, 3) := by decide +kernel
theorem dX7_roomOf_132 : decode cX7_roomOf 132 = .ok (.iload_n 2, 1) := by decide +kernel
theorem dX7_roomOf_133 : decode cX7_roomOf 133 = .ok (.iconst 1, 1) := by decide +kernel
theorem dX7_roomOf_134 : decode cX7_roomOf 134 = .ok (.if_icmp .ne 7, 3) := by decide +kernel
theorem dX7_roomOf_137 : decode cX7_roomOf 137 = .ok (.iload_n 3, 1) := by decide +kernel
theorem dX7_roomOf_138 : decode cX7_roomOf 138 = .ok (.goto 14, 3) := by decide +kernel
theorem dX7_roomOf_141 : decode cX7_roomOf 141 = .ok (.iload_n 3, 1) := by decide +kernel
theorem dX7_roomOf_142 : decode cX7_roomOf 142 = .ok (.ifCond .ne 8, 3) := by decide +kernel
theorem dX7_roomOf_145 : decode cX7_roomOf 145 = .ok (.ldc 157, 2) := by decide +kernel
theorem dX7_roomOf_147 : decode cX7_roomOf 147 = .ok (.goto 5, 3) := by decide +kernel
theorem dX7_roomOf_150 : decode cX7_roomOf 150 = .ok (.iload 4, 2) := by decide +kernel
theorem dX7_roomOf_152 : decode cX7_roomOf 152 = .ok (.ireturn, 1) := by decide +kernel
theorem dX7_peopleInClasses_0 : decode cX7_peopleInClasses 0 = .ok (.iconst 0, 1) := by decide +kernel
theorem dX7_peopleInClasses_1 : decode cX7_peopleInClasses 1 = .ok (.istore_n 1, 1) := by decide +kernel
theorem dX7_peopleInClasses_2 : decode cX7_peopleInClasses 2 = .ok (.iconst 0, 1) := by decide +kernel
theorem dX7_peopleInClasses_3 : decode cX7_peopleInClasses 3 = .ok (.istore_n 2, 1) := by decide +kernel
theorem dX7_peopleInClasses_4 : decode cX7_peopleInClasses 4 = .ok (.iload_n 2, 1) := by decide +kernel
theorem dX7_peopleInClasses_5 : decode cX7_peopleInClasses 5 = .ok (.aload_n 0, 1) := by decide +kernel
theorem dX7_peopleInClasses_6 : decode cX7_peopleInClasses 6 = .ok (.getfield 7, 3) := by decide +kernel
theorem dX7_peopleInClasses_9 : decode cX7_peopleInClasses 9 = .ok (.iconst 0, 1) := by decide +kernel
theorem dX7_peopleInClasses_10 : decode cX7_peopleInClasses 10 = .ok (.iaload, 1) := by decide +kernel
theorem dX7_peopleInClasses_11 : decode cX7_peopleInClasses 11 = .ok (.if_icmp .ge 17, 3) := by decide +kernel
theorem dX7_peopleInClasses_14 : decode cX7_peopleInClasses 14 = .ok (.iload_n 1, 1) := by decide +kernel
theorem dX7_peopleInClasses_15 : decode cX7_peopleInClasses 15 = .ok (.aload_n 0, 1) := by decide +kernel
theorem dX7_peopleInClasses_16 : decode cX7_peopleInClasses 16 = .ok (.iload_n 2, 1) := by decide +kernel
theorem dX7_peopleInClasses_17 : decode cX7_peopleInClasses 17 = .ok (.invokevirtual 47, 3) := by decide +kernel
theorem dX7_peopleInClasses_20 : decode cX7_peopleInClasses 20 = .ok (.iadd, 1) := by decide +kernel
theorem dX7_peopleInClasses_21 : decode cX7_peopleInClasses 21 = .ok (.istore_n 1, 1) := by decide +kernel
theorem dX7_peopleInClasses_22 : decode cX7_peopleInClasses 22 = .ok (.iinc 2 1, 3) := by decide +kernel
theorem dX7_peopleInClasses_25 : decode cX7_peopleInClasses 25 = .ok (.goto (-21), 3) := by decide +kernel
theorem dX7_peopleInClasses_28 : decode cX7_peopleInClasses 28 = .ok (.iload_n 1, 1) := by decide +kernel
theorem dX7_peopleInClasses_29 : decode cX7_peopleInClasses 29 = .ok (.ireturn, 1) := by decide +kernel
theorem dX7_ifClose_0 : decode cX7_ifClose 0 = .ok (.iload_n 1, 1) := by decide +kernel
theorem dX7_ifClose_1 : decode cX7_ifClose 1 = .ok (.iconst 0, 1) := by decide +kernel
theorem dX7_ifClose_2 : decode cX7_ifClose 2 = .ok (.iconst 5, 1) := by decide +kernel
theorem dX7_ifClose_3 : decode cX7_ifClose 3 = .ok (.invokestatic 32, 3) := by decide +kernel
theorem dX7_ifClose_6 : decode cX7_ifClose 6 = .ok (.ifCond .ne 6, 3) := by decide +kernel
theorem dX7_ifClose_9 : decode cX7_ifClose 9 = .ok (.ldc 109, 2) := by decide +kernel
theorem dX7_ifClose_11 : decode cX7_ifClose 11 = .ok (.ireturn, 1) := by decide +kernel
theorem dX7_ifClose_12 : decode cX7_ifClose 12 = .ok (.aload_n 0, 1) := by decide +kernel
theorem dX7_ifClose_13 : decode cX7_ifClose 13 = .ok (.getfield 7, 3) := by decide +kernel
theorem dX7_ifClose_16 : decode cX7_ifClose 16 = .ok (.sipush 547, 3) := by decide +kernel
theorem dX7_ifClose_19 : decode cX7_ifClose 19 = .ok (.iaload, 1) := by decide +kernel
theorem dX7_ifClose_20 : decode cX7_ifClose 20 = .ok (.iconst 1, 1) := by decide +kernel
theorem dX7_ifClose_21 : decode cX7_ifClose 21 = .ok (.if_icmp .ne 6, 3) := by decide +kernel
theorem dX7_ifClose_24 : decode cX7_ifClose 24 = .ok (.ldc 110, 2) := by decide +kernel
theorem dX7_ifClose_26 : decode cX7_ifClose 26 = .ok (.ireturn, 1) := by decide +kernel
theorem dX7_ifClose_27 : decode cX7_ifClose 27 = .ok (.aload_n 0, 1) := by decide +kernel
theorem dX7_ifClose_28 : decode cX7_ifClose 28 = .ok (.invokevirtual 131, 3) := by decide +kernel
theorem dX7_ifClose_31 : decode cX7_ifClose 31 = .ok (.aload_n 0, 1) := by decide +kernel
theorem dX7_ifClose_32 : decode cX7_ifClose 32 = .ok (.invokevirtual 119, 3) := by decide +kernel
theorem dX7_ifClose_35 : decode cX7_ifClose 35 = .ok (.iload_n 1, 1) := by decide +kernel
theorem dX7_ifClose_36 : decode cX7_ifClose 36 = .ok (.iconst 3, 1) := by decide +kernel
theorem dX7_ifClose_37 : decode cX7_ifClose 37 = .ok (.if_icmp .ge 13, 3) := by decide +kernel
theorem dX7_ifClose_40 : decode cX7_ifClose 40 = .ok (.aload_n 0, 1) := by decide +kernel
theorem dX7_ifClose_41 : decode cX7_ifClose 41 = .ok (.iconst 1, 1) := by decide +kernel
theorem dX7_ifClose_42 : decode cX7_ifClose 42 = .ok (.iload_n 1, 1) := by decide +kernel
theorem dX7_ifClose_43 : decode cX7_ifClose 43 = .ok (.iadd, 1) := by decide +kernel
theorem dX7_ifClose_44 : decode cX7_ifClose 44 = .ok (.invokevirtual 122, 3) := by decide +kernel
theorem dX7_ifClose_47 : decode cX7_ifClose 47 = .ok (.goto 57, 3) := by decide +kernel
theorem dX7_ifClose_50 : decode cX7_ifClose 50 = .ok (.iload_n 1, 1) := by decide +kernel
theorem dX7_ifClose_51 : decode cX7_ifClose 51 = .ok (.iconst 3, 1) := by decide +kernel
theorem dX7_ifClose_52 : decode cX7_ifClose 52 = .ok (.if_icmp .ne 10, 3) := by decide +kernel
theorem dX7_ifClose_55 : decode cX7_ifClose 55 = .ok (.aload_n 0, 1) := by decide +kernel
theorem dX7_ifClose_56 : decode cX7_ifClose 56 = .ok (.invokevirtual 167, 3) := by decide +kernel
theorem dX7_ifClose_59 : decode cX7_ifClose 59 = .ok (.goto 45, 3) := by decide +kernel
theorem dX7_ifClose_62 : decode cX7_ifClose 62 = .ok (.iload_n 1, 1) := by decide +kernel
theorem dX7_ifClose_63 : decode cX7_ifClose 63 = .ok (.iconst 4, 1) := by decide +kernel
theorem dX7_ifClose_64 : decode cX7_ifClose 64 = .ok (.if_icmp .ne 23, 3) := by decide +kernel
theorem dX7_ifClose_67 : decode cX7_ifClose 67 = .ok (.aload_n 0, 1) := by decide +kernel
theorem dX7_ifClose_68 : decode cX7_ifClose 68 = .ok (.getfield 7, 3) := by decide +kernel
theorem dX7_ifClose_71 : decode cX7_ifClose 71 = .ok (.sipush 549, 3) := by decide +kernel
theorem dX7_ifClose_74 : decode cX7_ifClose 74 = .ok (.iaload, 1) := by decide +kernel
theorem dX7_ifClose_75 : decode cX7_ifClose 75 = .ok (.aload_n 0, 1) := by decide +kernel
theorem dX7_ifClose_76 : decode cX7_ifClose 76 = .ok (.getfield 13, 3) := by decide +kernel
theorem dX7_ifClose_79 : decode cX7_ifClose 79 = .ok (.sipush 549, 3) := by decide +kernel
theorem dX7_ifClose_82 : decode cX7_ifClose 82 = .ok (.iaload, 1) := by decide +kernel
theorem dX7_ifClose_83 : decode cX7_ifClose 83 = .ok (.isub, 1) := by decide +kernel
theorem dX7_ifClose_84 : decode cX7_ifClose 84 = .ok (.goto 20, 3) := by decide +kernel
theorem dX7_ifClose_87 : decode cX7_ifClose 87 = .ok (.aload_n 0, 1) := by decide +kernel
theorem dX7_ifClose_88 : decode cX7_ifClose 88 = .ok (.getfield 7, 3) := by decide +kernel
theorem dX7_ifClose_91 : decode cX7_ifClose 91 = .ok (.sipush 548, 3) := by decide +kernel
theorem dX7_ifClose_94 : decode cX7_ifClose 94 = .ok (.iaload, 1) := by decide +kernel
theorem dX7_ifClose_95 : decode cX7_ifClose 95 = .ok (.aload_n 0, 1) := by decide +kernel
theorem dX7_ifClose_96 : decode cX7_ifClose 96 = .ok (.getfield 13, 3) := by decide +kernel
theorem dX7_ifClose_99 : decode cX7_ifClose 99 = .ok (.sipush 548, 3) := by decide +kernel
theorem dX7_ifClose_102 : decode cX7_ifClose 102 = .ok (.iaload, 1) := by decide +kernel
theorem dX7_ifClose_103 : decode cX7_ifClose 103 = .ok (.isub, 1) := by decide +kernel
theorem dX7_ifClose_104 : decode cX7_ifClose 104 = .ok (.istore_n 2, 1) := by decide +kernel
theorem dX7_ifClose_105 : decode cX7_ifClose 105 = .ok (.aload_n 0, 1) := by decide +kernel
theorem dX7_ifClose_106 : decode cX7_ifClose 106 = .ok (.invokevirtual 25, 3) := by decide +kernel
theorem dX7_ifClose_109 : decode cX7_ifClose 109 = .ok (.iload_n 2, 1) := by decide +kernel
theorem dX7_ifClose_110 : decode cX7_ifClose 110 = .ok (.ireturn, 1) := by decide +kernel
theorem dX7_beside_0 : decode cX7_beside 0 = .ok (.aload_n 0, 1) := by decide +kernel
theorem dX7_beside_1 : decode cX7_beside 1 = .ok (.iload_n 1, 1) := by decide +kernel
theorem dX7_beside_2 : decode cX7_beside 2 = .ok (.invokevirtual 103, 3) := by decide +kernel
theorem dX7_beside_5 : decode cX7_beside 5 = .ok (.ifCond .ne 6, 3) := by decide +kernel
theorem dX7_beside_8 : decode cX7_beside 8 = .ok (.ldc 109, 2) := by decide +kernel
theorem dX7_beside_10 : decode cX7_beside 10 = .ok (.ireturn, 1) := by decide +kernel
theorem dX7_beside_11 : decode cX7_beside 11 = .ok (.aload_n 0, 1) := by decide +kernel
theorem dX7_beside_12 : decode cX7_beside 12 = .ok (.iload_n 1, 1) := by decide +kernel
theorem dX7_beside_13 : decode cX7_beside 13 = .ok (.invokevirtual 43, 3) := by decide +kernel
theorem dX7_beside_16 : decode cX7_beside 16 = .ok (.ifCond .eq 14, 3) := by decide +kernel
theorem dX7_beside_19 : decode cX7_beside 19 = .ok (.aload_n 0, 1) := by decide +kernel
theorem dX7_beside_20 : decode cX7_beside 20 = .ok (.iload_n 1, 1) := by decide +kernel
theorem dX7_beside_21 : decode cX7_beside 21 = .ok (.invokevirtual 85, 3) := by decide +kernel
theorem dX7_beside_24 : decode cX7_beside 24 = .ok (.invokestatic 161, 3) := by decide +kernel
theorem dX7_beside_27 : decode cX7_beside 27 = .ok (.goto 5, 3) := by decide +kernel
theorem dX7_beside_30 : decode cX7_beside 30 = .ok (.ldc 110, 2) := by decide +kernel
theorem dX7_beside_32 : decode cX7_beside 32 = .ok (.ireturn, 1) := by decide +kernel
theorem dX7_ifJoin_0 : decode cX7_ifJoin 0 = .ok (.aload_n 0, 1) := by decide +kernel
theorem dX7_ifJoin_1 : decode cX7_ifJoin 1 = .ok (.iload_n 1, 1) := by decide +kernel
theorem dX7_ifJoin_2 : decode cX7_ifJoin 2 = .ok (.invokevirtual 103, 3) := by decide +kernel
theorem dX7_ifJoin_5 : decode cX7_ifJoin 5 = .ok (.ifCond .ne 6, 3) := by decide +kernel
theorem dX7_ifJoin_8 : decode cX7_ifJoin 8 = .ok (.ldc 109, 2) := by decide +kernel
theorem dX7_ifJoin_10 : decode cX7_ifJoin 10 = .ok (.ireturn, 1) := by decide +kernel
theorem dX7_ifJoin_11 : decode cX7_ifJoin 11 = .ok (.aload_n 0, 1) := by decide +kernel
theorem dX7_ifJoin_12 : decode cX7_ifJoin 12 = .ok (.getfield 7, 3) := by decide +kernel
theorem dX7_ifJoin_15 : decode cX7_ifJoin 15 = .ok (.sipush 547, 3) := by decide +kernel
theorem dX7_ifJoin_18 : decode cX7_ifJoin 18 = .ok (.iaload, 1) := by decide +kernel
theorem dX7_ifJoin_19 : decode cX7_ifJoin 19 = .ok (.iconst 1, 1) := by decide +kernel
theorem dX7_ifJoin_20 : decode cX7_ifJoin 20 = .ok (.if_icmp .ne 6, 3) := by decide +kernel
theorem dX7_ifJoin_23 : decode cX7_ifJoin 23 = .ok (.ldc 110, 2) := by decide +kernel
theorem dX7_ifJoin_25 : decode cX7_ifJoin 25 = .ok (.ireturn, 1) := by decide +kernel
theorem dX7_ifJoin_26 : decode cX7_ifJoin 26 = .ok (.aload_n 0, 1) := by decide +kernel
theorem dX7_ifJoin_27 : decode cX7_ifJoin 27 = .ok (.getfield 7, 3) := by decide +kernel
theorem dX7_ifJoin_30 : decode cX7_ifJoin 30 = .ok (.sipush 335, 3) := by decide +kernel
theorem dX7_ifJoin_33 : decode cX7_ifJoin 33 = .ok (.iaload, 1) := by decide +kernel
theorem dX7_ifJoin_34 : decode cX7_ifJoin 34 = .ok (.bipush 30, 2) := by decide +kernel
theorem dX7_ifJoin_36 : decode cX7_ifJoin 36 = .ok (.if_icmp .ne 8, 3) := by decide +kernel
theorem dX7_ifJoin_39 : decode cX7_ifJoin 39 = .ok (.ldc 111, 2) := by decide +kernel
theorem dX7_ifJoin_41 : decode cX7_ifJoin 41 = .ok (.goto 16, 3) := by decide +kernel
theorem dX7_ifJoin_44 : decode cX7_ifJoin 44 = .ok (.aload_n 0, 1) := by decide +kernel
theorem dX7_ifJoin_45 : decode cX7_ifJoin 45 = .ok (.iload_n 1, 1) := by decide +kernel
theorem dX7_ifJoin_46 : decode cX7_ifJoin 46 = .ok (.invokevirtual 60, 3) := by decide +kernel
theorem dX7_ifJoin_49 : decode cX7_ifJoin 49 = .ok (.ifCond .eq 7, 3) := by decide +kernel
theorem dX7_ifJoin_52 : decode cX7_ifJoin 52 = .ok (.iconst 0, 1) := by decide +kernel
theorem dX7_ifJoin_53 : decode cX7_ifJoin 53 = .ok (.goto 4, 3) := by decide +kernel
theorem dX7_ifJoin_56 : decode cX7_ifJoin 56 = .ok (.iconst 4, 1) := by decide +kernel
theorem dX7_ifJoin_57 : decode cX7_ifJoin 57 = .ok (.ireturn, 1) := by decide +kernel
theorem dX7_bitsOf_0 : decode cX7_bitsOf 0 = .ok (.fload_n 0, 1) := by decide +kernel
theorem dX7_bitsOf_1 : decode cX7_bitsOf 1 = .ok (.fconst 0, 1) := by decide +kernel
theorem dX7_bitsOf_2 : decode cX7_bitsOf 2 = .ok (.fcmp .l, 1) := by decide +kernel
theorem dX7_bitsOf_3 : decode cX7_bitsOf 3 = .ok (.ifCond .ne 5, 3) := by decide +kernel
theorem dX7_bitsOf_6 : decode cX7_bitsOf 6 = .ok (.iconst 0, 1) := by decide +kernel
theorem dX7_bitsOf_7 : decode cX7_bitsOf 7 = .ok (.ireturn, 1) := by decide +kernel
theorem dX7_bitsOf_8 : decode cX7_bitsOf 8 = .ok (.bipush 127, 2) := by decide +kernel
theorem dX7_bitsOf_10 : decode cX7_bitsOf 10 = .ok (.istore_n 1, 1) := by decide +kernel
theorem dX7_bitsOf_11 : decode cX7_bitsOf 11 = .ok (.fload_n 0, 1) := by decide +kernel
theorem dX7_bitsOf_12 : decode cX7_bitsOf 12 = .ok (.fstore_n 2, 1) := by decide +kernel
theorem dX7_bitsOf_13 : decode cX7_bitsOf 13 = .ok (.fload_n 2, 1) := by decide +kernel
theorem dX7_bitsOf_14 : decode cX7_bitsOf 14 = .ok (.fconst 1, 1) := by decide +kernel
theorem dX7_bitsOf_15 : decode cX7_bitsOf 15 = .ok (.fcmp .g, 1) := by decide +kernel
theorem dX7_bitsOf_16 : decode cX7_bitsOf 16 = .ok (.ifCond .ge 13, 3) := by decide +kernel
theorem dX7_bitsOf_19 : decode cX7_bitsOf 19 = .ok (.fload_n 2, 1) := by decide +kernel
theorem dX7_bitsOf_20 : decode cX7_bitsOf 20 = .ok (.fconst 2, 1) := by decide +kernel
theorem dX7_bitsOf_21 : decode cX7_bitsOf 21 = .ok (.fmul, 1) := by decide +kernel
theorem dX7_bitsOf_22 : decode cX7_bitsOf 22 = .ok (.fstore_n 2, 1) := by decide +kernel
theorem dX7_bitsOf_23 : decode cX7_bitsOf 23 = .ok (.iinc 1 (-1), 3) := by decide +kernel
theorem dX7_bitsOf_26 : decode cX7_bitsOf 26 = .ok (.goto (-13), 3) := by decide +kernel
theorem dX7_bitsOf_29 : decode cX7_bitsOf 29 = .ok (.fload_n 2, 1) := by decide +kernel
theorem dX7_bitsOf_30 : decode cX7_bitsOf 30 = .ok (.fconst 2, 1) := by decide +kernel
theorem dX7_bitsOf_31 : decode cX7_bitsOf 31 = .ok (.fcmp .l, 1) := by decide +kernel
theorem dX7_bitsOf_32 : decode cX7_bitsOf 32 = .ok (.ifCond .lt 13, 3) := by decide +kernel
theorem dX7_bitsOf_35 : decode cX7_bitsOf 35 = .ok (.fload_n 2, 1) := by decide +kernel
theorem dX7_bitsOf_36 : decode cX7_bitsOf 36 = .ok (.fconst 2, 1) := by decide +kernel
theorem dX7_bitsOf_37 : decode cX7_bitsOf 37 = .ok (.fdiv, 1) := by decide +kernel
theorem dX7_bitsOf_38 : decode cX7_bitsOf 38 = .ok (.fstore_n 2, 1) := by decide +kernel
theorem dX7_bitsOf_39 : decode cX7_bitsOf 39 = .ok (.iinc 1 1, 3) := by decide +kernel
theorem dX7_bitsOf_42 : decode cX7_bitsOf 42 = .ok (.goto (-13), 3) := by decide +kernel
theorem dX7_bitsOf_45 : decode cX7_bitsOf 45 = .ok (.iload_n 1, 1) := by decide +kernel
theorem dX7_bitsOf_46 : decode cX7_bitsOf 46 = .ok (.ldc 170, 2) := by decide +kernel
theorem dX7_bitsOf_48 : decode cX7_bitsOf 48 = .ok (.imul, 1) := by decide +kernel
theorem dX7_bitsOf_49 : decode cX7_bitsOf 49 = .ok (.fload_n 2, 1) := by decide +kernel
theorem dX7_bitsOf_50 : decode cX7_bitsOf 50 = .ok (.fconst 1, 1) := by decide +kernel
theorem dX7_bitsOf_51 : decode cX7_bitsOf 51 = .ok (.fsub, 1) := by decide +kernel
theorem dX7_bitsOf_52 : decode cX7_bitsOf 52 = .ok (.ldc 171, 2) := by decide +kernel
theorem dX7_bitsOf_54 : decode cX7_bitsOf 54 = .ok (.fmul, 1) := by decide +kernel
theorem dX7_bitsOf_55 : decode cX7_bitsOf 55 = .ok (.f2i, 1) := by decide +kernel
theorem dX7_bitsOf_56 : decode cX7_bitsOf 56 = .ok (.iadd, 1) := by decide +kernel
theorem dX7_bitsOf_57 : decode cX7_bitsOf 57 = .ok (.ireturn, 1) := by decide +kernel
theorem dX7_here_0 : decode cX7_here 0 = .ok (.iconst 0, 1) := by decide +kernel
theorem dX7_here_1 : decode cX7_here 1 = .ok (.istore_n 1, 1) := by decide +kernel
theorem dX7_here_2 : decode cX7_here 2 = .ok (.iconst 0, 1) := by decide +kernel
theorem dX7_here_3 : decode cX7_here 3 = .ok (.istore_n 2, 1) := by decide +kernel
theorem dX7_here_4 : decode cX7_here 4 = .ok (.iload_n 2, 1) := by decide +kernel
theorem dX7_here_5 : decode cX7_here 5 = .ok (.aload_n 0, 1) := by decide +kernel
theorem dX7_here_6 : decode cX7_here 6 = .ok (.getfield 7, 3) := by decide +kernel
theorem dX7_here_9 : decode cX7_here 9 = .ok (.sipush 335, 3) := by decide +kernel
theorem dX7_here_12 : decode cX7_here 12 = .ok (.iaload, 1) := by decide +kernel
theorem dX7_here_13 : decode cX7_here 13 = .ok (.if_icmp .ge 22, 3) := by decide +kernel
theorem dX7_here_16 : decode cX7_here 16 = .ok (.iload_n 1, 1) := by decide +kernel
theorem dX7_here_17 : decode cX7_here 17 = .ok (.aload_n 0, 1) := by decide +kernel
theorem dX7_here_18 : decode cX7_here 18 = .ok (.getfield 7, 3) := by decide +kernel
theorem dX7_here_21 : decode cX7_here 21 = .ok (.iload_n 2, 1) := by decide +kernel
theorem dX7_here_22 : decode cX7_here 22 = .ok (.iconst 0, 1) := by decide +kernel
theorem dX7_here_23 : decode cX7_here 23 = .ok (.invokestatic 36, 3) := by decide +kernel
theorem dX7_here_26 : decode cX7_here 26 = .ok (.iaload, 1) := by decide +kernel
theorem dX7_here_27 : decode cX7_here 27 = .ok (.iadd, 1) := by decide +kernel
theorem dX7_here_28 : decode cX7_here 28 = .ok (.istore_n 1, 1) := by decide +kernel
theorem dX7_here_29 : decode cX7_here 29 = .ok (.iinc 2 1, 3) := by decide +kernel
theorem dX7_here_32 : decode cX7_here 32 = .ok (.goto (-28), 3) := by decide +kernel
theorem dX7_here_35 : decode cX7_here 35 = .ok (.iload_n 1, 1) := by decide +kernel
theorem dX7_here_36 : decode cX7_here 36 = .ok (.ireturn, 1) := by decide +kernel
theorem dX7_mean_0 : decode cX7_mean 0 = .ok (.iconst 0, 1) := by decide +kernel
theorem dX7_mean_1 : decode cX7_mean 1 = .ok (.istore_n 1, 1) := by decide +kernel
theorem dX7_mean_2 : decode cX7_mean 2 = .ok (.iconst 0, 1) := by decide +kernel
theorem dX7_mean_3 : decode cX7_mean 3 = .ok (.istore_n 2, 1) := by decide +kernel
theorem dX7_mean_4 : decode cX7_mean 4 = .ok (.iload_n 2, 1) := by decide +kernel
theorem dX7_mean_5 : decode cX7_mean 5 = .ok (.aload_n 0, 1) := by decide +kernel
theorem dX7_mean_6 : decode cX7_mean 6 = .ok (.getfield 7, 3) := by decide +kernel
theorem dX7_mean_9 : decode cX7_mean 9 = .ok (.sipush 335, 3) := by decide +kernel
theorem dX7_mean_12 : decode cX7_mean 12 = .ok (.iaload, 1) := by decide +kernel
theorem dX7_mean_13 : decode cX7_mean 13 = .ok (.if_icmp .ge 29, 3) := by decide +kernel
theorem dX7_mean_16 : decode cX7_mean 16 = .ok (.iload_n 1, 1) := by decide +kernel
theorem dX7_mean_17 : decode cX7_mean 17 = .ok (.aload_n 0, 1) := by decide +kernel
theorem dX7_mean_18 : decode cX7_mean 18 = .ok (.iload_n 2, 1) := by decide +kernel
theorem dX7_mean_19 : decode cX7_mean 19 = .ok (.invokevirtual 54, 3) := by decide +kernel
theorem dX7_mean_22 : decode cX7_mean 22 = .ok (.ifCond .eq 11, 3) := by decide +kernel
theorem dX7_mean_25 : decode cX7_mean 25 = .ok (.aload_n 0, 1) := by decide +kernel
theorem dX7_mean_26 : decode cX7_mean 26 = .ok (.iload_n 2, 1) := by decide +kernel
theorem dX7_mean_27 : decode cX7_mean 27 = .ok (.invokevirtual 57, 3) := by decide +kernel
theorem dX7_mean_30 : decode cX7_mean 30 = .ok (.goto 4, 3) := by decide +kernel
theorem dX7_mean_33 : decode cX7_mean 33 = .ok (.iconst 0, 1) := by decide +kernel
theorem dX7_mean_34 : decode cX7_mean 34 = .ok (.iadd, 1) := by decide +kernel
theorem dX7_mean_35 : decode cX7_mean 35 = .ok (.istore_n 1, 1) := by decide +kernel
theorem dX7_mean_36 : decode cX7_mean 36 = .ok (.iinc 2 1, 3) := by decide +kernel
theorem dX7_mean_39 : decode cX7_mean 39 = .ok (.goto (-35), 3) := by decide +kernel
theorem dX7_mean_42 : decode cX7_mean 42 = .ok (.aload_n 0, 1) := by decide +kernel
theorem dX7_mean_43 : decode cX7_mean 43 = .ok (.invokevirtual 172, 3) := by decide +kernel
theorem dX7_mean_46 : decode cX7_mean 46 = .ok (.ifCond .ne 8, 3) := by decide +kernel
theorem dX7_mean_49 : decode cX7_mean 49 = .ok (.ldc 157, 2) := by decide +kernel
theorem dX7_mean_51 : decode cX7_mean 51 = .ok (.goto 14, 3) := by decide +kernel
theorem dX7_mean_54 : decode cX7_mean 54 = .ok (.iload_n 1, 1) := by decide +kernel
theorem dX7_mean_55 : decode cX7_mean 55 = .ok (.i2f, 1) := by decide +kernel
theorem dX7_mean_56 : decode cX7_mean 56 = .ok (.aload_n 0, 1) := by decide +kernel
theorem dX7_mean_57 : decode cX7_mean 57 = .ok (.invokevirtual 172, 3) := by decide +kernel
theorem dX7_mean_60 : decode cX7_mean 60 = .ok (.i2f, 1) := by decide +kernel
theorem dX7_mean_61 : decode cX7_mean 61 = .ok (.fdiv, 1) := by decide +kernel
theorem dX7_mean_62 : decode cX7_mean 62 = .ok (.invokestatic 175, 3) := by decide +kernel
theorem dX7_mean_65 : decode cX7_mean 65 = .ok (.ireturn, 1) := by decide +kernel
theorem dX7_withFree_0 : decode cX7_withFree 0 = .ok (.iconst 0, 1) := by decide +kernel
theorem dX7_withFree_1 : decode cX7_withFree 1 = .ok (.istore_n 1, 1) := by decide +kernel
theorem dX7_withFree_2 : decode cX7_withFree 2 = .ok (.iconst 0, 1) := by decide +kernel
theorem dX7_withFree_3 : decode cX7_withFree 3 = .ok (.istore_n 2, 1) := by decide +kernel
theorem dX7_withFree_4 : decode cX7_withFree 4 = .ok (.iload_n 2, 1) := by decide +kernel
theorem dX7_withFree_5 : decode cX7_withFree 5 = .ok (.aload_n 0, 1) := by decide +kernel
theorem dX7_withFree_6 : decode cX7_withFree 6 = .ok (.getfield 7, 3) := by decide +kernel
theorem dX7_withFree_9 : decode cX7_withFree 9 = .ok (.iconst 0, 1) := by decide +kernel
theorem dX7_withFree_10 : decode cX7_withFree 10 = .ok (.iaload, 1) := by decide +kernel
theorem dX7_withFree_11 : decode cX7_withFree 11 = .ok (.if_icmp .ge 27, 3) := by decide +kernel
theorem dX7_withFree_14 : decode cX7_withFree 14 = .ok (.iload_n 1, 1) := by decide +kernel
theorem dX7_withFree_15 : decode cX7_withFree 15 = .ok (.aload_n 0, 1) := by decide +kernel
theorem dX7_withFree_16 : decode cX7_withFree 16 = .ok (.iload_n 2, 1) := by decide +kernel
theorem dX7_withFree_17 : decode cX7_withFree 17 = .ok (.invokevirtual 60, 3) := by decide +kernel
theorem dX7_withFree_20 : decode cX7_withFree 20 = .ok (.ifCond .eq 9, 3) := by decide +kernel
theorem dX7_withFree_23 : decode cX7_withFree 23 = .ok (.iconst 1, 1) := by decide +kernel
theorem dX7_withFree_24 : decode cX7_withFree 24 = .ok (.iload_n 2, 1) := by decide +kernel
theorem dX7_withFree_25 : decode cX7_withFree 25 = .ok (.ishl, 1) := by decide +kernel
theorem dX7_withFree_26 : decode cX7_withFree 26 = .ok (.goto 4, 3) := by decide +kernel
theorem dX7_withFree_29 : decode cX7_withFree 29 = .ok (.iconst 0, 1) := by decide +kernel
theorem dX7_withFree_30 : decode cX7_withFree 30 = .ok (.ior, 1) := by decide +kernel
theorem dX7_withFree_31 : decode cX7_withFree 31 = .ok (.istore_n 1, 1) := by decide +kernel
theorem dX7_withFree_32 : decode cX7_withFree 32 = .ok (.iinc 2 1, 3) := by decide +kernel
theorem dX7_withFree_35 : decode cX7_withFree 35 = .ok (.goto (-31), 3) := by decide +kernel
theorem dX7_withFree_38 : decode cX7_withFree 38 = .ok (.iload_n 1, 1) := by decide +kernel
theorem dX7_withFree_39 : decode cX7_withFree 39 = .ok (.ireturn, 1) := by decide +kernel
theorem dX7_count_0 : decode cX7_count 0 = .ok (.iload_n 1, 1) := by decide +kernel
theorem dX7_count_1 : decode cX7_count 1 = .ok (.tableswitch 176 0 17 #[87, 94, 103, 112, 117, 122, 128, 133, 133, 133, 133, 147, 152, 152, 152, 152, 166, 171], 87) := by decide +kernel
theorem dX7_count_88 : decode cX7_count 88 = .ok (.aload_n 0, 1) := by decide +kernel
theorem dX7_count_89 : decode cX7_count 89 = .ok (.getfield 7, 3) := by decide +kernel
theorem dX7_count_92 : decode cX7_count 92 = .ok (.iconst 0, 1) := by decide +kernel
theorem dX7_count_93 : decode cX7_count 93 = .ok (.iaload, 1) := by decide +kernel
theorem dX7_count_94 : decode cX7_count 94 = .ok (.ireturn, 1) := by decide +kernel
theorem dX7_count_95 : decode cX7_count 95 = .ok (.aload_n 0, 1) := by decide +kernel
theorem dX7_count_96 : decode cX7_count 96 = .ok (.getfield 7, 3) := by decide +kernel
theorem dX7_count_99 : decode cX7_count 99 = .ok (.sipush 329, 3) := by decide +kernel
theorem dX7_count_102 : decode cX7_count 102 = .ok (.iaload, 1) := by decide +kernel
theorem dX7_count_103 : decode cX7_count 103 = .ok (.ireturn, 1) := by decide +kernel
theorem dX7_count_104 : decode cX7_count 104 = .ok (.aload_n 0, 1) := by decide +kernel
theorem dX7_count_105 : decode cX7_count 105 = .ok (.getfield 7, 3) := by decide +kernel
theorem dX7_count_108 : decode cX7_count 108 = .ok (.sipush 335, 3) := by decide +kernel
theorem dX7_count_111 : decode cX7_count 111 = .ok (.iaload, 1) := by decide +kernel
theorem dX7_count_112 : decode cX7_count 112 = .ok (.ireturn, 1) := by decide +kernel
theorem dX7_count_113 : decode cX7_count 113 = .ok (.aload_n 0, 1) := by decide +kernel
theorem dX7_count_114 : decode cX7_count 114 = .ok (.invokevirtual 172, 3) := by decide +kernel
theorem dX7_count_117 : decode cX7_count 117 = .ok (.ireturn, 1) := by decide +kernel
theorem dX7_count_118 : decode cX7_count 118 = .ok (.aload_n 0, 1) := by decide +kernel
theorem dX7_count_119 : decode cX7_count 119 = .ok (.invokevirtual 167, 3) := by decide +kernel
theorem dX7_count_122 : decode cX7_count 122 = .ok (.ireturn, 1) := by decide +kernel
theorem dX7_count_123 : decode cX7_count 123 = .ok (.aload_n 0, 1) := by decide +kernel
theorem dX7_count_124 : decode cX7_count 124 = .ok (.iconst 0, 1) := by decide +kernel
theorem dX7_count_125 : decode cX7_count 125 = .ok (.invokevirtual 122, 3) := by decide +kernel
theorem dX7_count_128 : decode cX7_count 128 = .ok (.ireturn, 1) := by decide +kernel
theorem dX7_count_129 : decode cX7_count 129 = .ok (.aload_n 0, 1) := by decide +kernel
theorem dX7_count_130 : decode cX7_count 130 = .ok (.invokevirtual 179, 3) := by decide +kernel
theorem dX7_count_133 : decode cX7_count 133 = .ok (.ireturn, 1) := by decide +kernel
theorem dX7_count_134 : decode cX7_count 134 = .ok (.aload_n 0, 1) := by decide +kernel
theorem dX7_count_135 : decode cX7_count 135 = .ok (.getfield 7, 3) := by decide +kernel
theorem dX7_count_138 : decode cX7_count 138 = .ok (.sipush 546, 3) := by decide +kernel
theorem dX7_count_141 : decode cX7_count 141 = .ok (.iload_n 1, 1) := by decide +kernel
theorem dX7_count_142 : decode cX7_count 142 = .ok (.iadd, 1) := by decide +kernel
theorem dX7_count_143 : decode cX7_count 143 = .ok (.bipush 7, 2) := by decide +kernel
theorem dX7_count_145 : decode cX7_count 145 = .ok (.isub, 1) := by decide +kernel
theorem dX7_count_146 : decode cX7_count 146 = .ok (.iaload, 1) := by decide +kernel
theorem dX7_count_147 : decode cX7_count 147 = .ok (.ireturn, 1) := by decide +kernel
theorem dX7_count_148 : decode cX7_count 148 = .ok (.aload_n 0, 1) := by decide +kernel
theorem dX7_count_149 : decode cX7_count 149 = .ok (.invokevirtual 128, 3) := by decide +kernel
theorem dX7_count_152 : decode cX7_count 152 = .ok (.ireturn, 1) := by decide +kernel
theorem dX7_count_153 : decode cX7_count 153 = .ok (.aload_n 0, 1) := by decide +kernel
theorem dX7_count_154 : decode cX7_count 154 = .ok (.getfield 7, 3) := by decide +kernel
theorem dX7_count_157 : decode cX7_count 157 = .ok (.sipush 550, 3) := by decide +kernel
theorem dX7_count_160 : decode cX7_count 160 = .ok (.iload_n 1, 1) := by decide +kernel
theorem dX7_count_161 : decode cX7_count 161 = .ok (.iadd, 1) := by decide +kernel
theorem dX7_count_162 : decode cX7_count 162 = .ok (.bipush 12, 2) := by decide +kernel
theorem dX7_count_164 : decode cX7_count 164 = .ok (.isub, 1) := by decide +kernel
theorem dX7_count_165 : decode cX7_count 165 = .ok (.iaload, 1) := by decide +kernel
theorem dX7_count_166 : decode cX7_count 166 = .ok (.ireturn, 1) := by decide +kernel
theorem dX7_count_167 : decode cX7_count 167 = .ok (.aload_n 0, 1) := by decide +kernel
theorem dX7_count_168 : decode cX7_count 168 = .ok (.getfield 28, 3) := by decide +kernel
theorem dX7_count_171 : decode cX7_count 171 = .ok (.ireturn, 1) := by decide +kernel
theorem dX7_count_172 : decode cX7_count 172 = .ok (.aload_n 0, 1) := by decide +kernel
theorem dX7_count_173 : decode cX7_count 173 = .ok (.getfield 182, 3) := by decide +kernel
theorem dX7_count_176 : decode cX7_count 176 = .ok (.ireturn, 1) := by decide +kernel
theorem dX7_count_177 : decode cX7_count 177 = .ok (.ldc 109, 2) := by decide +kernel
theorem dX7_count_179 : decode cX7_count 179 = .ok (.ireturn, 1) := by decide +kernel
theorem dX7_undo_0 : decode cX7_undo 0 = .ok (.aload_n 0, 1) := by decide +kernel
theorem dX7_undo_1 : decode cX7_undo 1 = .ok (.getfield 28, 3) := by decide +kernel
theorem dX7_undo_4 : decode cX7_undo 4 = .ok (.ifCond .ne 6, 3) := by decide +kernel
theorem dX7_undo_7 : decode cX7_undo 7 = .ok (.ldc 110, 2) := by decide +kernel
theorem dX7_undo_9 : decode cX7_undo 9 = .ok (.ireturn, 1) := by decide +kernel
theorem dX7_undo_10 : decode cX7_undo 10 = .ok (.aload_n 0, 1) := by decide +kernel
theorem dX7_undo_11 : decode cX7_undo 11 = .ok (.dup, 1) := by decide +kernel
theorem dX7_undo_12 : decode cX7_undo 12 = .ok (.getfield 28, 3) := by decide +kernel
theorem dX7_undo_15 : decode cX7_undo 15 = .ok (.iconst 1, 1) := by decide +kernel
theorem dX7_undo_16 : decode cX7_undo 16 = .ok (.isub, 1) := by decide +kernel
theorem dX7_undo_17 : decode cX7_undo 17 = .ok (.putfield 28, 3) := by decide +kernel
theorem dX7_undo_20 : decode cX7_undo 20 = .ok (.iconst 0, 1) := by decide +kernel
theorem dX7_undo_21 : decode cX7_undo 21 = .ok (.istore_n 1, 1) := by decide +kernel
theorem dX7_undo_22 : decode cX7_undo 22 = .ok (.iload_n 1, 1) := by decide +kernel
theorem dX7_undo_23 : decode cX7_undo 23 = .ok (.sipush 554, 3) := by decide +kernel
theorem dX7_undo_26 : decode cX7_undo 26 = .ok (.if_icmp .ge 30, 3) := by decide +kernel
theorem dX7_undo_29 : decode cX7_undo 29 = .ok (.aload_n 0, 1) := by decide +kernel
theorem dX7_undo_30 : decode cX7_undo 30 = .ok (.getfield 7, 3) := by decide +kernel
theorem dX7_undo_33 : decode cX7_undo 33 = .ok (.iload_n 1, 1) := by decide +kernel
theorem dX7_undo_34 : decode cX7_undo 34 = .ok (.aload_n 0, 1) := by decide +kernel
theorem dX7_undo_35 : decode cX7_undo 35 = .ok (.getfield 16, 3) := by decide +kernel
theorem dX7_undo_38 : decode cX7_undo 38 = .ok (.sipush 554, 3) := by decide +kernel
theorem dX7_undo_41 : decode cX7_undo 41 = .ok (.aload_n 0, 1) := by decide +kernel
theorem dX7_undo_42 : decode cX7_undo 42 = .ok (.getfield 28, 3) := by decide +kernel
theorem dX7_undo_45 : decode cX7_undo 45 = .ok (.imul, 1) := by decide +kernel
theorem dX7_undo_46 : decode cX7_undo 46 = .ok (.iload_n 1, 1) := by decide +kernel
theorem dX7_undo_47 : decode cX7_undo 47 = .ok (.iadd, 1) := by decide +kernel
theorem dX7_undo_48 : decode cX7_undo 48 = .ok (.iaload, 1) := by decide +kernel
theorem dX7_undo_49 : decode cX7_undo 49 = .ok (.iastore, 1) := by decide +kernel
theorem dX7_undo_50 : decode cX7_undo 50 = .ok (.iinc 1 1, 3) := by decide +kernel
theorem dX7_undo_53 : decode cX7_undo 53 = .ok (.goto (-31), 3) := by decide +kernel
theorem dX7_undo_56 : decode cX7_undo 56 = .ok (.aload_n 0, 1) := by decide +kernel
theorem dX7_undo_57 : decode cX7_undo 57 = .ok (.getfield 28, 3) := by decide +kernel
theorem dX7_undo_60 : decode cX7_undo 60 = .ok (.ireturn, 1) := by decide +kernel
theorem dX7_type_0 : decode cX7_type 0 = .ok (.iload_n 1, 1) := by decide +kernel
theorem dX7_type_1 : decode cX7_type 1 = .ok (.bipush 32, 2) := by decide +kernel
theorem dX7_type_3 : decode cX7_type 3 = .ok (.bipush 126, 2) := by decide +kernel
theorem dX7_type_5 : decode cX7_type 5 = .ok (.invokestatic 32, 3) := by decide +kernel
theorem dX7_type_8 : decode cX7_type 8 = .ok (.ifCond .ne 6, 3) := by decide +kernel
theorem dX7_type_11 : decode cX7_type 11 = .ok (.ldc 109, 2) := by decide +kernel
theorem dX7_type_13 : decode cX7_type 13 = .ok (.ireturn, 1) := by decide +kernel
theorem dX7_type_14 : decode cX7_type 14 = .ok (.aload_n 0, 1) := by decide +kernel
theorem dX7_type_15 : decode cX7_type 15 = .ok (.getfield 182, 3) := by decide +kernel
theorem dX7_type_18 : decode cX7_type 18 = .ok (.bipush 60, 2) := by decide +kernel
theorem dX7_type_20 : decode cX7_type 20 = .ok (.if_icmp .ne 6, 3) := by decide +kernel
theorem dX7_type_23 : decode cX7_type 23 = .ok (.ldc 111, 2) := by decide +kernel
theorem dX7_type_25 : decode cX7_type 25 = .ok (.ireturn, 1) := by decide +kernel
theorem dX7_type_26 : decode cX7_type 26 = .ok (.aload_n 0, 1) := by decide +kernel
theorem dX7_type_27 : decode cX7_type 27 = .ok (.getfield 19, 3) := by decide +kernel
theorem dX7_type_30 : decode cX7_type 30 = .ok (.aload_n 0, 1) := by decide +kernel
theorem dX7_type_31 : decode cX7_type 31 = .ok (.getfield 182, 3) := by decide +kernel
theorem dX7_type_34 : decode cX7_type 34 = .ok (.iload_n 1, 1) := by decide +kernel
theorem dX7_type_35 : decode cX7_type 35 = .ok (.iastore, 1) := by decide +kernel
theorem dX7_type_36 : decode cX7_type 36 = .ok (.aload_n 0, 1) := by decide +kernel
theorem dX7_type_37 : decode cX7_type 37 = .ok (.dup, 1) := by decide +kernel
theorem dX7_type_38 : decode cX7_type 38 = .ok (.getfield 182, 3) := by decide +kernel
theorem dX7_type_41 : decode cX7_type 41 = .ok (.iconst 1, 1) := by decide +kernel
theorem dX7_type_42 : decode cX7_type 42 = .ok (.iadd, 1) := by decide +kernel
theorem dX7_type_43 : decode cX7_type 43 = .ok (.putfield 182, 3) := by decide +kernel
theorem dX7_type_46 : decode cX7_type 46 = .ok (.aload_n 0, 1) := by decide +kernel
theorem dX7_type_47 : decode cX7_type 47 = .ok (.getfield 182, 3) := by decide +kernel
theorem dX7_type_50 : decode cX7_type 50 = .ok (.ireturn, 1) := by decide +kernel
theorem dX7_clearText_0 : decode cX7_clearText 0 = .ok (.aload_n 0, 1) := by decide +kernel
theorem dX7_clearText_1 : decode cX7_clearText 1 = .ok (.getfield 182, 3) := by decide +kernel
theorem dX7_clearText_4 : decode cX7_clearText 4 = .ok (.istore_n 1, 1) := by decide +kernel
theorem dX7_clearText_5 : decode cX7_clearText 5 = .ok (.aload_n 0, 1) := by decide +kernel
theorem dX7_clearText_6 : decode cX7_clearText 6 = .ok (.iconst 0, 1) := by decide +kernel
theorem dX7_clearText_7 : decode cX7_clearText 7 = .ok (.putfield 182, 3) := by decide +kernel
theorem dX7_clearText_10 : decode cX7_clearText 10 = .ok (.iload_n 1, 1) := by decide +kernel
theorem dX7_clearText_11 : decode cX7_clearText 11 = .ok (.ireturn, 1) := by decide +kernel
theorem dX7_misfits_0 : decode cX7_misfits 0 = .ok (.aload_n 0, 1) := by decide +kernel
theorem dX7_misfits_1 : decode cX7_misfits 1 = .ok (.aload_n 0, 1) := by decide +kernel
theorem dX7_misfits_2 : decode cX7_misfits 2 = .ok (.getfield 185, 3) := by decide +kernel
theorem dX7_misfits_5 : decode cX7_misfits 5 = .ok (.ifCond .ne 7, 3) := by decide +kernel
theorem dX7_misfits_8 : decode cX7_misfits 8 = .ok (.iconst 1, 1) := by decide +kernel
theorem dX7_misfits_9 : decode cX7_misfits 9 = .ok (.goto 7, 3) := by decide +kernel
theorem dX7_misfits_12 : decode cX7_misfits 12 = .ok (.aload_n 0, 1) := by decide +kernel
theorem dX7_misfits_13 : decode cX7_misfits 13 = .ok (.getfield 185, 3) := by decide +kernel
theorem dX7_misfits_16 : decode cX7_misfits 16 = .ok (.putfield 185, 3) := by decide +kernel
theorem dX7_misfits_19 : decode cX7_misfits 19 = .ok (.aload_n 0, 1) := by decide +kernel
theorem dX7_misfits_20 : decode cX7_misfits 20 = .ok (.iload_n 1, 1) := by decide +kernel
theorem dX7_misfits_21 : decode cX7_misfits 21 = .ok (.aload_n 0, 1) := by decide +kernel
theorem dX7_misfits_22 : decode cX7_misfits 22 = .ok (.getfield 188, 3) := by decide +kernel
theorem dX7_misfits_25 : decode cX7_misfits 25 = .ok (.isub, 1) := by decide +kernel
theorem dX7_misfits_26 : decode cX7_misfits 26 = .ok (.putfield 191, 3) := by decide +kernel
theorem dX7_misfits_29 : decode cX7_misfits 29 = .ok (.return_, 1) := by decide +kernel
theorem dX7_isNext_0 : decode cX7_isNext 0 = .ok (.aload_n 0, 1) := by decide +kernel
theorem dX7_isNext_1 : decode cX7_isNext 1 = .ok (.getfield 194, 3) := by decide +kernel
theorem dX7_isNext_4 : decode cX7_isNext 4 = .ok (.aload_n 0, 1) := by decide +kernel
theorem dX7_isNext_5 : decode cX7_isNext 5 = .ok (.getfield 182, 3) := by decide +kernel
theorem dX7_isNext_8 : decode cX7_isNext 8 = .ok (.if_icmp .ge 24, 3) := by decide +kernel
theorem dX7_isNext_11 : decode cX7_isNext 11 = .ok (.aload_n 0, 1) := by decide +kernel
theorem dX7_isNext_12 : decode cX7_isNext 12 = .ok (.getfield 19, 3) := by decide +kernel
theorem dX7_isNext_15 : decode cX7_isNext 15 = .ok (.aload_n 0, 1) := by decide +kernel
theorem dX7_isNext_16 : decode cX7_isNext 16 = .ok (.getfield 194, 3) := by decide +kernel
theorem dX7_isNext_19 : decode cX7_isNext 19 = .ok (.iaload, 1) := by decide +kernel
theorem dX7_isNext_20 : decode cX7_isNext 20 = .ok (.iload_n 1, 1) := by decide +kernel
theorem dX7_isNext_21 : decode cX7_isNext 21 = .ok (.iload_n 2, 1) := by decide +kernel
theorem dX7_isNext_22 : decode cX7_isNext 22 = .ok (.invokestatic 32, 3) := by decide +kernel
theorem dX7_isNext_25 : decode cX7_isNext 25 = .ok (.ifCond .eq 7, 3) := by decide +kernel
theorem dX7_isNext_28 : decode cX7_isNext 28 = .ok (.iconst 1, 1) := by decide +kernel
theorem dX7_isNext_29 : decode cX7_isNext 29 = .ok (.goto 4, 3) := by decide +kernel
theorem dX7_isNext_32 : decode cX7_isNext 32 = .ok (.iconst 0, 1) := by decide +kernel
theorem dX7_isNext_33 : decode cX7_isNext 33 = .ok (.ireturn, 1) := by decide +kernel
theorem dX7_spells_0 : decode cX7_spells 0 = .ok (.iload_n 1, 1) := by decide +kernel
theorem dX7_spells_1 : decode cX7_spells 1 = .ok (.iconst 4, 1) := by decide +kernel
theorem dX7_spells_2 : decode cX7_spells 2 = .ok (.if_icmp .lt 67, 3) := by decide +kernel
theorem dX7_spells_5 : decode cX7_spells 5 = .ok (.aload_n 0, 1) := by decide +kernel
theorem dX7_spells_6 : decode cX7_spells 6 = .ok (.getfield 19, 3) := by decide +kernel
theorem dX7_spells_9 : decode cX7_spells 9 = .ok (.aload_n 0, 1) := by decide +kernel
theorem dX7_spells_10 : decode cX7_spells 10 = .ok (.getfield 188, 3) := by decide +kernel
theorem dX7_spells_13 : decode cX7_spells 13 = .ok (.iaload, 1) := by decide +kernel
theorem dX7_spells_14 : decode cX7_spells 14 = .ok (.iload_n 2, 1) := by decide +kernel
theorem dX7_spells_15 : decode cX7_spells 15 = .ok (.if_icmp .ne 54, 3) := by decide +kernel
theorem dX7_spells_18 : decode cX7_spells 18 = .ok (.aload_n 0, 1) := by decide +kernel
theorem dX7_spells_19 : decode cX7_spells 19 = .ok (.getfield 19, 3) := by decide +kernel
theorem dX7_spells_22 : decode cX7_spells 22 = .ok (.aload_n 0, 1) := by decide +kernel
theorem dX7_spells_23 : decode cX7_spells 23 = .ok (.getfield 188, 3) := by decide +kernel
theorem dX7_spells_26 : decode cX7_spells 26 = .ok (.iconst 1, 1) := by decide +kernel
theorem dX7_spells_27 : decode cX7_spells 27 = .ok (.iadd, 1) := by decide +kernel
theorem dX7_spells_28 : decode cX7_spells 28 = .ok (.iaload, 1) := by decide +kernel
theorem dX7_spells_29 : decode cX7_spells 29 = .ok (.iload_n 3, 1) := by decide +kernel
theorem dX7_spells_30 : decode cX7_spells 30 = .ok (.if_icmp .ne 39, 3) := by decide +kernel
theorem dX7_spells_33 : decode cX7_spells 33 = .ok (.aload_n 0, 1) := by decide +kernel
theorem dX7_spells_34 : decode cX7_spells 34 = .ok (.getfield 19, 3) := by decide +kernel
theorem dX7_spells_37 : decode cX7_spells 37 = .ok (.aload_n 0, 1) := by decide +kernel
theorem dX7_spells_38 : decode cX7_spells 38 = .ok (.getfield 188, 3) := by decide +kernel
theorem dX7_spells_41 : decode cX7_spells 41 = .ok (.iconst 2, 1) := by decide +kernel
theorem dX7_spells_42 : decode cX7_spells 42 = .ok (.iadd, 1) := by decide +kernel
theorem dX7_spells_43 : decode cX7_spells 43 = .ok (.iaload, 1) := by decide +kernel
theorem dX7_spells_44 : decode cX7_spells 44 = .ok (.iload 4, 2) := by decide +kernel
theorem dX7_spells_46 : decode cX7_spells 46 = .ok (.if_icmp .ne 23, 3) := by decide +kernel
theorem dX7_spells_49 : decode cX7_spells 49 = .ok (.aload_n 0, 1) := by decide +kernel
theorem dX7_spells_50 : decode cX7_spells 50 = .ok (.getfield 19, 3) := by decide +kernel
theorem dX7_spells_53 : decode cX7_spells 53 = .ok (.aload_n 0, 1) := by decide +kernel
theorem dX7_spells_54 : decode cX7_spells 54 = .ok (.getfield 188, 3) := by decide +kernel
theorem dX7_spells_57 : decode cX7_spells 57 = .ok (.iconst 3, 1) := by decide +kernel
theorem dX7_spells_58 : decode cX7_spells 58 = .ok (.iadd, 1) := by decide +kernel
theorem dX7_spells_59 : decode cX7_spells 59 = .ok (.iaload, 1) := by decide +kernel
theorem dX7_spells_60 : decode cX7_spells 60 = .ok (.iload 5, 2) := by decide +kernel
theorem dX7_spells_62 : decode cX7_spells 62 = .ok (.if_icmp .ne 7, 3) := by decide +kernel
theorem dX7_spells_65 : decode cX7_spells 65 = .ok (.iconst 1, 1) := by decide +kernel
theorem dX7_spells_66 : decode cX7_spells 66 = .ok (.goto 4, 3) := by decide +kernel
theorem dX7_spells_69 : decode cX7_spells 69 = .ok (.iconst 0, 1) := by decide +kernel
theorem dX7_spells_70 : decode cX7_spells 70 = .ok (.ireturn, 1) := by decide +kernel
theorem dX7_wordOf_0 : decode cX7_wordOf 0 = .ok (.iload_n 1, 1) := by decide +kernel
theorem dX7_wordOf_1 : decode cX7_wordOf 1 = .ok (.iconst 4, 1) := by decide +kernel
theorem dX7_wordOf_2 : decode cX7_wordOf 2 = .ok (.if_icmp .ne 65, 3) := by decide +kernel
theorem dX7_wordOf_5 : decode cX7_wordOf 5 = .ok (.aload_n 0, 1) := by decide +kernel
theorem dX7_wordOf_6 : decode cX7_wordOf 6 = .ok (.iload_n 1, 1) := by decide +kernel
theorem dX7_wordOf_7 : decode cX7_wordOf 7 = .ok (.bipush 106, 2) := by decide +kernel
theorem dX7_wordOf_9 : decode cX7_wordOf 9 = .ok (.bipush 111, 2) := by decide +kernel
theorem dX7_wordOf_11 : decode cX7_wordOf 11 = .ok (.bipush 105, 2) := by decide +kernel
theorem dX7_wordOf_13 : decode cX7_wordOf 13 = .ok (.bipush 110, 2) := by decide +kernel
theorem dX7_wordOf_15 : decode cX7_wordOf 15 = .ok (.invokevirtual 197, 3) := by decide +kernel
theorem dX7_wordOf_18 : decode cX7_wordOf 18 = .ok (.ifCond .eq 7, 3) := by decide +kernel
theorem dX7_wordOf_21 : decode cX7_wordOf 21 = .ok (.iconst 0, 1) := by decide +kernel
theorem dX7_wordOf_22 : decode cX7_wordOf 22 = .ok (.goto 44, 3) := by decide +kernel
theorem dX7_wordOf_25 : decode cX7_wordOf 25 = .ok (.aload_n 0, 1) := by decide +kernel
theorem dX7_wordOf_26 : decode cX7_wordOf 26 = .ok (.iload_n 1, 1) := by decide +kernel
theorem dX7_wordOf_27 : decode cX7_wordOf 27 = .ok (.bipush 119, 2) := by decide +kernel
theorem dX7_wordOf_29 : decode cX7_wordOf 29 = .ok (.bipush 105, 2) := by decide +kernel
theorem dX7_wordOf_31 : decode cX7_wordOf 31 = .ok (.bipush 115, 2) := by decide +kernel
theorem dX7_wordOf_33 : decode cX7_wordOf 33 = .ok (.bipush 104, 2) := by decide +kernel
theorem dX7_wordOf_35 : decode cX7_wordOf 35 = .ok (.invokevirtual 197, 3) := by decide +kernel
theorem dX7_wordOf_38 : decode cX7_wordOf 38 = .ok (.ifCond .eq 7, 3) := by decide +kernel
theorem dX7_wordOf_41 : decode cX7_wordOf 41 = .ok (.iconst 1, 1) := by decide +kernel
theorem dX7_wordOf_42 : decode cX7_wordOf 42 = .ok (.goto 24, 3) := by decide +kernel
theorem dX7_wordOf_45 : decode cX7_wordOf 45 = .ok (.aload_n 0, 1) := by decide +kernel
theorem dX7_wordOf_46 : decode cX7_wordOf 46 = .ok (.iload_n 1, 1) := by decide +kernel
theorem dX7_wordOf_47 : decode cX7_wordOf 47 = .ok (.bipush 116, 2) := by decide +kernel
theorem dX7_wordOf_49 : decode cX7_wordOf 49 = .ok (.bipush 101, 2) := by decide +kernel
theorem dX7_wordOf_51 : decode cX7_wordOf 51 = .ok (.bipush 114, 2) := by decide +kernel
theorem dX7_wordOf_53 : decode cX7_wordOf 53 = .ok (.bipush 109, 2) := by decide +kernel
theorem dX7_wordOf_55 : decode cX7_wordOf 55 = .ok (.invokevirtual 197, 3) := by decide +kernel
theorem dX7_wordOf_58 : decode cX7_wordOf 58 = .ok (.ifCond .eq 7, 3) := by decide +kernel
theorem dX7_wordOf_61 : decode cX7_wordOf 61 = .ok (.iconst 4, 1) := by decide +kernel
theorem dX7_wordOf_62 : decode cX7_wordOf 62 = .ok (.goto 4, 3) := by decide +kernel
theorem dX7_wordOf_65 : decode cX7_wordOf 65 = .ok (.iconst (-1), 1) := by decide +kernel
theorem dX7_wordOf_66 : decode cX7_wordOf 66 = .ok (.ireturn, 1) := by decide +kernel
theorem dX7_wordOf_67 : decode cX7_wordOf 67 = .ok (.iload_n 1, 1) := by decide +kernel
theorem dX7_wordOf_68 : decode cX7_wordOf 68 = .ok (.iconst 5, 1) := by decide +kernel
theorem dX7_wordOf_69 : decode cX7_wordOf 69 = .ok (.if_icmp .ne 23, 3) := by decide +kernel
theorem dX7_wordOf_72 : decode cX7_wordOf 72 = .ok (.aload_n 0, 1) := by decide +kernel
theorem dX7_wordOf_73 : decode cX7_wordOf 73 = .ok (.getfield 19, 3) := by decide +kernel
theorem dX7_wordOf_76 : decode cX7_wordOf 76 = .ok (.aload_n 0, 1) := by decide +kernel
theorem dX7_wordOf_77 : decode cX7_wordOf 77 = .ok (.getfield 188, 3) := by decide +kernel
theorem dX7_wordOf_80 : decode cX7_wordOf 80 = .ok (.iconst 4, 1) := by decide +kernel
theorem dX7_wordOf_81 : decode cX7_wordOf 81 = .ok (.iadd, 1) := by decide +kernel
theorem dX7_wordOf_82 : decode cX7_wordOf 82 = .ok (.iaload, 1) := by decide +kernel
theorem dX7_wordOf_83 : decode cX7_wordOf 83 = .ok (.bipush 101, 2) := by decide +kernel
theorem dX7_wordOf_85 : decode cX7_wordOf 85 = .ok (.if_icmp .ne 7, 3) := by decide +kernel
theorem dX7_wordOf_88 : decode cX7_wordOf 88 = .ok (.iconst 1, 1) := by decide +kernel
theorem dX7_wordOf_89 : decode cX7_wordOf 89 = .ok (.goto 4, 3) := by decide +kernel
theorem dX7_wordOf_92 : decode cX7_wordOf 92 = .ok (.iconst 0, 1) := by decide +kernel
theorem dX7_wordOf_93 : decode cX7_wordOf 93 = .ok (.istore_n 2, 1) := by decide +kernel
theorem dX7_wordOf_94 : decode cX7_wordOf 94 = .ok (.iload_n 2, 1) := by decide +kernel
theorem dX7_wordOf_95 : decode cX7_wordOf 95 = .ok (.ifCond .eq 23, 3) := by decide +kernel
theorem dX7_wordOf_98 : decode cX7_wordOf 98 = .ok (.aload_n 0, 1) := by decide +kernel
theorem dX7_wordOf_99 : decode cX7_wordOf 99 = .ok (.iload_n 1, 1) := by decide +kernel
theorem dX7_wordOf_100 : decode cX7_wordOf 100 = .ok (.bipush 108, 2) := by decide +kernel
theorem dX7_wordOf_102 : decode cX7_wordOf 102 = .ok (.bipush 101, 2) := by decide +kernel
theorem dX7_wordOf_104 : decode cX7_wordOf 104 = .ok (.bipush 97, 2) := by decide +kernel
theorem dX7_wordOf_106 : decode cX7_wordOf 106 = .ok (.bipush 118, 2) := by decide +kernel
theorem dX7_wordOf_108 : decode cX7_wordOf 108 = .ok (.invokevirtual 197, 3) := by decide +kernel
theorem dX7_wordOf_111 : decode cX7_wordOf 111 = .ok (.ifCond .eq 7, 3) := by decide +kernel
theorem dX7_wordOf_114 : decode cX7_wordOf 114 = .ok (.iconst 2, 1) := by decide +kernel
theorem dX7_wordOf_115 : decode cX7_wordOf 115 = .ok (.goto 28, 3) := by decide +kernel
theorem dX7_wordOf_118 : decode cX7_wordOf 118 = .ok (.iload_n 2, 1) := by decide +kernel
theorem dX7_wordOf_119 : decode cX7_wordOf 119 = .ok (.ifCond .eq 23, 3) := by decide +kernel
theorem dX7_wordOf_122 : decode cX7_wordOf 122 = .ok (.aload_n 0, 1) := by decide +kernel
theorem dX7_wordOf_123 : decode cX7_wordOf 123 = .ok (.iload_n 1, 1) := by decide +kernel
theorem dX7_wordOf_124 : decode cX7_wordOf 124 = .ok (.bipush 99, 2) := by decide +kernel
theorem dX7_wordOf_126 : decode cX7_wordOf 126 = .ok (.bipush 108, 2) := by decide +kernel
theorem dX7_wordOf_128 : decode cX7_wordOf 128 = .ok (.bipush 111, 2) := by decide +kernel
theorem dX7_wordOf_130 : decode cX7_wordOf 130 = .ok (.bipush 115, 2) := by decide +kernel
theorem dX7_wordOf_132 : decode cX7_wordOf 132 = .ok (.invokevirtual 197, 3) := by decide +kernel
theorem dX7_wordOf_135 : decode cX7_wordOf 135 = .ok (.ifCond .eq 7, 3) := by decide +kernel
theorem dX7_wordOf_138 : decode cX7_wordOf 138 = .ok (.iconst 3, 1) := by decide +kernel
theorem dX7_wordOf_139 : decode cX7_wordOf 139 = .ok (.goto 4, 3) := by decide +kernel
theorem dX7_wordOf_142 : decode cX7_wordOf 142 = .ok (.iconst (-1), 1) := by decide +kernel
theorem dX7_wordOf_143 : decode cX7_wordOf 143 = .ok (.ireturn, 1) := by decide +kernel
theorem dX7_readNumber_0 : decode cX7_readNumber 0 = .ok (.aload_n 0, 1) := by decide +kernel
theorem dX7_readNumber_1 : decode cX7_readNumber 1 = .ok (.bipush 48, 2) := by decide +kernel
theorem dX7_readNumber_3 : decode cX7_readNumber 3 = .ok (.bipush 57, 2) := by decide +kernel
theorem dX7_readNumber_5 : decode cX7_readNumber 5 = .ok (.invokevirtual 201, 3) := by decide +kernel
theorem dX7_readNumber_8 : decode cX7_readNumber 8 = .ok (.ifCond .ne 12, 3) := by decide +kernel
theorem dX7_readNumber_11 : decode cX7_readNumber 11 = .ok (.aload_n 0, 1) := by decide +kernel
theorem dX7_readNumber_12 : decode cX7_readNumber 12 = .ok (.aload_n 0, 1) := by decide +kernel
theorem dX7_readNumber_13 : decode cX7_readNumber 13 = .ok (.getfield 194, 3) := by decide +kernel
theorem dX7_readNumber_16 : decode cX7_readNumber 16 = .ok (.invokevirtual 204, 3) := by decide +kernel
theorem dX7_readNumber_19 : decode cX7_readNumber 19 = .ok (.return_, 1) := by decide +kernel
theorem dX7_readNumber_20 : decode cX7_readNumber 20 = .ok (.aload_n 0, 1) := by decide +kernel
theorem dX7_readNumber_21 : decode cX7_readNumber 21 = .ok (.getfield 19, 3) := by decide +kernel
theorem dX7_readNumber_24 : decode cX7_readNumber 24 = .ok (.aload_n 0, 1) := by decide +kernel
theorem dX7_readNumber_25 : decode cX7_readNumber 25 = .ok (.getfield 194, 3) := by decide +kernel
theorem dX7_readNumber_28 : decode cX7_readNumber 28 = .ok (.iaload, 1) := by decide +kernel
theorem dX7_readNumber_29 : decode cX7_readNumber 29 = .ok (.bipush 48, 2) := by decide +kernel
theorem dX7_readNumber_31 : decode cX7_readNumber 31 = .ok (.isub, 1) := by decide +kernel
theorem dX7_readNumber_32 : decode cX7_readNumber 32 = .ok (.istore_n 1, 1) := by decide +kernel
theorem dX7_readNumber_33 : decode cX7_readNumber 33 = .ok (.aload_n 0, 1) := by decide +kernel
theorem dX7_readNumber_34 : decode cX7_readNumber 34 = .ok (.dup, 1) := by decide +kernel
theorem dX7_readNumber_35 : decode cX7_readNumber 35 = .ok (.getfield 194, 3) := by decide +kernel
theorem dX7_readNumber_38 : decode cX7_readNumber 38 = .ok (.iconst 1, 1) := by decide +kernel
theorem dX7_readNumber_39 : decode cX7_readNumber 39 = .ok (.iadd, 1) := by decide +kernel
theorem dX7_readNumber_40 : decode cX7_readNumber 40 = .ok (.putfield 194, 3) := by decide +kernel
theorem dX7_readNumber_43 : decode cX7_readNumber 43 = .ok (.aload_n 0, 1) := by decide +kernel
theorem dX7_readNumber_44 : decode cX7_readNumber 44 = .ok (.bipush 48, 2) := by decide +kernel
theorem dX7_readNumber_46 : decode cX7_readNumber 46 = .ok (.bipush 57, 2) := by decide +kernel
theorem dX7_readNumber_48 : decode cX7_readNumber 48 = .ok (.invokevirtual 201, 3) := by decide +kernel
theorem dX7_readNumber_51 : decode cX7_readNumber 51 = .ok (.ifCond .eq 31, 3) := by decide +kernel
theorem dX7_readNumber_54 : decode cX7_readNumber 54 = .ok (.bipush 10, 2) := by decide +kernel
theorem dX7_readNumber_56 : decode cX7_readNumber 56 = .ok (.iload_n 1, 1) := by decide +kernel
theorem dX7_readNumber_57 : decode cX7_readNumber 57 = .ok (.imul, 1) := by decide +kernel
theorem dX7_readNumber_58 : decode cX7_readNumber 58 = .ok (.aload_n 0, 1) := by decide +kernel
theorem dX7_readNumber_59 : decode cX7_readNumber 59 = .ok (.getfield 19, 3) := by decide +kernel
theorem dX7_readNumber_62 : decode cX7_readNumber 62 = .ok (.aload_n 0, 1) := by decide +kernel
theorem dX7_readNumber_63 : decode cX7_readNumber 63 = .ok (.getfield 194, 3) := by decide +kernel
theorem dX7_readNumber_66 : decode cX7_readNumber 66 = .ok (.iaload, 1) := by decide +kernel
theorem dX7_readNumber_67 : decode cX7_readNumber 67 = .ok (.iadd, 1) := by decide +kernel
theorem dX7_readNumber_68 : decode cX7_readNumber 68 = .ok (.bipush 48, 2) := by decide +kernel
theorem dX7_readNumber_70 : decode cX7_readNumber 70 = .ok (.isub, 1) := by decide +kernel
theorem dX7_readNumber_71 : decode cX7_readNumber 71 = .ok (.istore_n 1, 1) := by decide +kernel
theorem dX7_readNumber_72 : decode cX7_readNumber 72 = .ok (.aload_n 0, 1) := by decide +kernel
theorem dX7_readNumber_73 : decode cX7_readNumber 73 = .ok (.dup, 1) := by decide +kernel
theorem dX7_readNumber_74 : decode cX7_readNumber 74 = .ok (.getfield 194, 3) := by decide +kernel
theorem dX7_readNumber_77 : decode cX7_readNumber 77 = .ok (.iconst 1, 1) := by decide +kernel
theorem dX7_readNumber_78 : decode cX7_readNumber 78 = .ok (.iadd, 1) := by decide +kernel
theorem dX7_readNumber_79 : decode cX7_readNumber 79 = .ok (.putfield 194, 3) := by decide +kernel
theorem dX7_readNumber_82 : decode cX7_readNumber 82 = .ok (.aload_n 0, 1) := by decide +kernel
theorem dX7_readNumber_83 : decode cX7_readNumber 83 = .ok (.getfield 22, 3) := by decide +kernel
theorem dX7_readNumber_86 : decode cX7_readNumber 86 = .ok (.aload_n 0, 1) := by decide +kernel
theorem dX7_readNumber_87 : decode cX7_readNumber 87 = .ok (.getfield 207, 3) := by decide +kernel
theorem dX7_readNumber_90 : decode cX7_readNumber 90 = .ok (.iload_n 1, 1) := by decide +kernel
theorem dX7_readNumber_91 : decode cX7_readNumber 91 = .ok (.iastore, 1) := by decide +kernel
theorem dX7_readNumber_92 : decode cX7_readNumber 92 = .ok (.aload_n 0, 1) := by decide +kernel
theorem dX7_readNumber_93 : decode cX7_readNumber 93 = .ok (.dup, 1) := by decide +kernel
theorem dX7_readNumber_94 : decode cX7_readNumber 94 = .ok (.getfield 207, 3) := by decide +kernel
theorem dX7_readNumber_97 : decode cX7_readNumber 97 = .ok (.iconst 1, 1) := by decide +kernel
theorem dX7_readNumber_98 : decode cX7_readNumber 98 = .ok (.iadd, 1) := by decide +kernel
theorem dX7_readNumber_99 : decode cX7_readNumber 99 = .ok (.putfield 207, 3) := by decide +kernel
theorem dX7_readNumber_102 : decode cX7_readNumber 102 = .ok (.return_, 1) := by decide +kernel
theorem dX7_readOrder_0 : decode cX7_readOrder 0 = .ok (.aload_n 0, 1) := by decide +kernel
theorem dX7_readOrder_1 : decode cX7_readOrder 1 = .ok (.aload_n 0, 1) := by decide +kernel
theorem dX7_readOrder_2 : decode cX7_readOrder 2 = .ok (.getfield 188, 3) := by decide +kernel
theorem dX7_readOrder_5 : decode cX7_readOrder 5 = .ok (.putfield 194, 3) := by decide +kernel
theorem dX7_readOrder_8 : decode cX7_readOrder 8 = .ok (.aload_n 0, 1) := by decide +kernel
theorem dX7_readOrder_9 : decode cX7_readOrder 9 = .ok (.iconst 0, 1) := by decide +kernel
theorem dX7_readOrder_10 : decode cX7_readOrder 10 = .ok (.putfield 207, 3) := by decide +kernel
theorem dX7_readOrder_13 : decode cX7_readOrder 13 = .ok (.aload_n 0, 1) := by decide +kernel
theorem dX7_readOrder_14 : decode cX7_readOrder 14 = .ok (.bipush 97, 2) := by decide +kernel
theorem dX7_readOrder_16 : decode cX7_readOrder 16 = .ok (.bipush 122, 2) := by decide +kernel
theorem dX7_readOrder_18 : decode cX7_readOrder 18 = .ok (.invokevirtual 201, 3) := by decide +kernel
theorem dX7_readOrder_21 : decode cX7_readOrder 21 = .ok (.ifCond .eq 16, 3) := by decide +kernel
theorem dX7_readOrder_24 : decode cX7_readOrder 24 = .ok (.aload_n 0, 1) := by decide +kernel
theorem dX7_readOrder_25 : decode cX7_readOrder 25 = .ok (.dup, 1) := by decide +kernel
theorem dX7_readOrder_26 : decode cX7_readOrder 26 = .ok (.getfield 194, 3) := by decide +kernel
theorem dX7_readOrder_29 : decode cX7_readOrder 29 = .ok (.iconst 1, 1) := by decide +kernel
theorem dX7_readOrder_30 : decode cX7_readOrder 30 = .ok (.iadd, 1) := by decide +kernel
theorem dX7_readOrder_31 : decode cX7_readOrder 31 = .ok (.putfield 194, 3) := by decide +kernel
theorem dX7_readOrder_34 : decode cX7_readOrder 34 = .ok (.goto (-21), 3) := by decide +kernel
theorem dX7_readOrder_37 : decode cX7_readOrder 37 = .ok (.aload_n 0, 1) := by decide +kernel
theorem dX7_readOrder_38 : decode cX7_readOrder 38 = .ok (.aload_n 0, 1) := by decide +kernel
theorem dX7_readOrder_39 : decode cX7_readOrder 39 = .ok (.getfield 194, 3) := by decide +kernel
theorem dX7_readOrder_42 : decode cX7_readOrder 42 = .ok (.aload_n 0, 1) := by decide +kernel
theorem dX7_readOrder_43 : decode cX7_readOrder 43 = .ok (.getfield 182, 3) := by decide +kernel
theorem dX7_readOrder_46 : decode cX7_readOrder 46 = .ok (.if_icmp .ne 7, 3) := by decide +kernel
theorem dX7_readOrder_49 : decode cX7_readOrder 49 = .ok (.iconst (-1), 1) := by decide +kernel
theorem dX7_readOrder_50 : decode cX7_readOrder 50 = .ok (.goto 16, 3) := by decide +kernel
theorem dX7_readOrder_53 : decode cX7_readOrder 53 = .ok (.aload_n 0, 1) := by decide +kernel
theorem dX7_readOrder_54 : decode cX7_readOrder 54 = .ok (.aload_n 0, 1) := by decide +kernel
theorem dX7_readOrder_55 : decode cX7_readOrder 55 = .ok (.getfield 194, 3) := by decide +kernel
theorem dX7_readOrder_58 : decode cX7_readOrder 58 = .ok (.aload_n 0, 1) := by decide +kernel
theorem dX7_readOrder_59 : decode cX7_readOrder 59 = .ok (.getfield 188, 3) := by decide +kernel
theorem dX7_readOrder_62 : decode cX7_readOrder 62 = .ok (.isub, 1) := by decide +kernel
theorem dX7_readOrder_63 : decode cX7_readOrder 63 = .ok (.invokevirtual 210, 3) := by decide +kernel
theorem dX7_readOrder_66 : decode cX7_readOrder 66 = .ok (.putfield 213, 3) := by decide +kernel
theorem dX7_readOrder_69 : decode cX7_readOrder 69 = .ok (.aload_n 0, 1) := by decide +kernel
theorem dX7_readOrder_70 : decode cX7_readOrder 70 = .ok (.getfield 213, 3) := by decide +kernel
theorem dX7_readOrder_73 : decode cX7_readOrder 73 = .ok (.ifCond .ge 30, 3) := by decide +kernel
theorem dX7_readOrder_76 : decode cX7_readOrder 76 = .ok (.aload_n 0, 1) := by decide +kernel
theorem dX7_readOrder_77 : decode cX7_readOrder 77 = .ok (.aload_n 0, 1) := by decide +kernel
theorem dX7_readOrder_78 : decode cX7_readOrder 78 = .ok (.getfield 194, 3) := by decide +kernel
theorem dX7_readOrder_81 : decode cX7_readOrder 81 = .ok (.aload_n 0, 1) := by decide +kernel
theorem dX7_readOrder_82 : decode cX7_readOrder 82 = .ok (.getfield 182, 3) := by decide +kernel
theorem dX7_readOrder_85 : decode cX7_readOrder 85 = .ok (.if_icmp .ne 10, 3) := by decide +kernel
theorem dX7_readOrder_88 : decode cX7_readOrder 88 = .ok (.aload_n 0, 1) := by decide +kernel
theorem dX7_readOrder_89 : decode cX7_readOrder 89 = .ok (.getfield 182, 3) := by decide +kernel
theorem dX7_readOrder_92 : decode cX7_readOrder 92 = .ok (.goto 7, 3) := by decide +kernel
theorem dX7_readOrder_95 : decode cX7_readOrder 95 = .ok (.aload_n 0, 1) := by decide +kernel
theorem dX7_readOrder_96 : decode cX7_readOrder 96 = .ok (.getfield 188, 3) := by decide +kernel
theorem dX7_readOrder_99 : decode cX7_readOrder 99 = .ok (.invokevirtual 204, 3) := by decide +kernel
theorem dX7_readOrder_102 : decode cX7_readOrder 102 = .ok (.return_, 1) := by decide +kernel
theorem dX7_readOrder_103 : decode cX7_readOrder 103 = .ok (.aload_n 0, 1) := by decide +kernel
theorem dX7_readOrder_104 : decode cX7_readOrder 104 = .ok (.getfield 213, 3) := by decide +kernel
theorem dX7_readOrder_107 : decode cX7_readOrder 107 = .ok (.ifCond .eq 11, 3) := by decide +kernel
theorem dX7_readOrder_110 : decode cX7_readOrder 110 = .ok (.aload_n 0, 1) := by decide +kernel
theorem dX7_readOrder_111 : decode cX7_readOrder 111 = .ok (.getfield 213, 3) := by decide +kernel
theorem dX7_readOrder_114 : decode cX7_readOrder 114 = .ok (.iconst 2, 1) := by decide +kernel
theorem dX7_readOrder_115 : decode cX7_readOrder 115 = .ok (.if_icmp .ne 7, 3) := by decide +kernel
theorem dX7_readOrder_118 : decode cX7_readOrder 118 = .ok (.iconst 1, 1) := by decide +kernel
theorem dX7_readOrder_119 : decode cX7_readOrder 119 = .ok (.goto 16, 3) := by decide +kernel
theorem dX7_readOrder_122 : decode cX7_readOrder 122 = .ok (.aload_n 0, 1) := by decide +kernel
theorem dX7_readOrder_123 : decode cX7_readOrder 123 = .ok (.getfield 213, 3) := by decide +kernel
theorem dX7_readOrder_126 : decode cX7_readOrder 126 = .ok (.iconst 1, 1) := by decide +kernel
theorem dX7_readOrder_127 : decode cX7_readOrder 127 = .ok (.if_icmp .ne 7, 3) := by decide +kernel
theorem dX7_readOrder_130 : decode cX7_readOrder 130 = .ok (.iconst 2, 1) := by decide +kernel
theorem dX7_readOrder_131 : decode cX7_readOrder 131 = .ok (.goto 4, 3) := by decide +kernel
theorem dX7_readOrder_134 : decode cX7_readOrder 134 = .ok (.iconst 0, 1) := by decide +kernel
theorem dX7_readOrder_135 : decode cX7_readOrder 135 = .ok (.istore_n 1, 1) := by decide +kernel
theorem dX7_readOrder_136 : decode cX7_readOrder 136 = .ok (.aload_n 0, 1) := by decide +kernel
theorem dX7_readOrder_137 : decode cX7_readOrder 137 = .ok (.getfield 213, 3) := by decide +kernel
theorem dX7_readOrder_140 : decode cX7_readOrder 140 = .ok (.ifCond .ne 7, 3) := by decide +kernel
theorem dX7_readOrder_143 : decode cX7_readOrder 143 = .ok (.iconst 3, 1) := by decide +kernel
theorem dX7_readOrder_144 : decode cX7_readOrder 144 = .ok (.goto 16, 3) := by decide +kernel
theorem dX7_readOrder_147 : decode cX7_readOrder 147 = .ok (.aload_n 0, 1) := by decide +kernel
theorem dX7_readOrder_148 : decode cX7_readOrder 148 = .ok (.getfield 213, 3) := by decide +kernel
theorem dX7_readOrder_151 : decode cX7_readOrder 151 = .ok (.iconst 1, 1) := by decide +kernel
theorem dX7_readOrder_152 : decode cX7_readOrder 152 = .ok (.if_icmp .ne 7, 3) := by decide +kernel
theorem dX7_readOrder_155 : decode cX7_readOrder 155 = .ok (.iconst 4, 1) := by decide +kernel
theorem dX7_readOrder_156 : decode cX7_readOrder 156 = .ok (.goto 4, 3) := by decide +kernel
theorem dX7_readOrder_159 : decode cX7_readOrder 159 = .ok (.iload_n 1, 1) := by decide +kernel
theorem dX7_readOrder_160 : decode cX7_readOrder 160 = .ok (.istore_n 2, 1) := by decide +kernel
theorem dX7_readOrder_161 : decode cX7_readOrder 161 = .ok (.iload_n 2, 1) := by decide +kernel
theorem dX7_readOrder_162 : decode cX7_readOrder 162 = .ok (.ifCond .le 23, 3) := by decide +kernel
theorem dX7_readOrder_165 : decode cX7_readOrder 165 = .ok (.aload_n 0, 1) := by decide +kernel
theorem dX7_readOrder_166 : decode cX7_readOrder 166 = .ok (.bipush 32, 2) := by decide +kernel
theorem dX7_readOrder_168 : decode cX7_readOrder 168 = .ok (.bipush 32, 2) := by decide +kernel
theorem dX7_readOrder_170 : decode cX7_readOrder 170 = .ok (.invokevirtual 201, 3) := by decide +kernel
theorem dX7_readOrder_173 : decode cX7_readOrder 173 = .ok (.ifCond .ne 12, 3) := by decide +kernel
theorem dX7_readOrder_176 : decode cX7_readOrder 176 = .ok (.aload_n 0, 1) := by decide +kernel
theorem dX7_readOrder_177 : decode cX7_readOrder 177 = .ok (.aload_n 0, 1) := by decide +kernel
theorem dX7_readOrder_178 : decode cX7_readOrder 178 = .ok (.getfield 194, 3) := by decide +kernel
theorem dX7_readOrder_181 : decode cX7_readOrder 181 = .ok (.invokevirtual 204, 3) := by decide +kernel
theorem dX7_readOrder_184 : decode cX7_readOrder 184 = .ok (.return_, 1) := by decide +kernel
theorem dX7_readOrder_185 : decode cX7_readOrder 185 = .ok (.iload_n 2, 1) := by decide +kernel
theorem dX7_readOrder_186 : decode cX7_readOrder 186 = .ok (.ifCond .le 7, 3) := by decide +kernel
theorem dX7_readOrder_189 : decode cX7_readOrder 189 = .ok (.iconst 1, 1) := by decide +kernel
theorem dX7_readOrder_190 : decode cX7_readOrder 190 = .ok (.goto 4, 3) := by decide +kernel
theorem dX7_readOrder_193 : decode cX7_readOrder 193 = .ok (.iconst 0, 1) := by decide +kernel
theorem dX7_readOrder_194 : decode cX7_readOrder 194 = .ok (.istore_n 3, 1) := by decide +kernel
theorem dX7_readOrder_195 : decode cX7_readOrder 195 = .ok (.iload_n 3, 1) := by decide +kernel
theorem dX7_readOrder_196 : decode cX7_readOrder 196 = .ok (.ifCond .eq 59, 3) := by decide +kernel
theorem dX7_readOrder_199 : decode cX7_readOrder 199 = .ok (.aload_n 0, 1) := by decide +kernel
theorem dX7_readOrder_200 : decode cX7_readOrder 200 = .ok (.getfield 185, 3) := by decide +kernel
theorem dX7_readOrder_203 : decode cX7_readOrder 203 = .ok (.ifCond .ne 52, 3) := by decide +kernel
theorem dX7_readOrder_206 : decode cX7_readOrder 206 = .ok (.aload_n 0, 1) := by decide +kernel
theorem dX7_readOrder_207 : decode cX7_readOrder 207 = .ok (.dup, 1) := by decide +kernel
theorem dX7_readOrder_208 : decode cX7_readOrder 208 = .ok (.getfield 194, 3) := by decide +kernel
theorem dX7_readOrder_211 : decode cX7_readOrder 211 = .ok (.iconst 1, 1) := by decide +kernel
theorem dX7_readOrder_212 : decode cX7_readOrder 212 = .ok (.iadd, 1) := by decide +kernel
theorem dX7_readOrder_213 : decode cX7_readOrder 213 = .ok (.putfield 194, 3) := by decide +kernel
theorem dX7_readOrder_216 : decode cX7_readOrder 216 = .ok (.aload_n 0, 1) := by decide +kernel
theorem dX7_readOrder_217 : decode cX7_readOrder 217 = .ok (.invokevirtual 216, 3) := by decide +kernel
theorem dX7_readOrder_220 : decode cX7_readOrder 220 = .ok (.aload_n 0, 1) := by decide +kernel
theorem dX7_readOrder_221 : decode cX7_readOrder 221 = .ok (.getfield 185, 3) := by decide +kernel
theorem dX7_readOrder_224 : decode cX7_readOrder 224 = .ok (.ifCond .ne 26, 3) := by decide +kernel
theorem dX7_readOrder_227 : decode cX7_readOrder 227 = .ok (.aload_n 0, 1) := by decide +kernel
theorem dX7_readOrder_228 : decode cX7_readOrder 228 = .ok (.getfield 207, 3) := by decide +kernel
theorem dX7_readOrder_231 : decode cX7_readOrder 231 = .ok (.iload_n 2, 1) := by decide +kernel
theorem dX7_readOrder_232 : decode cX7_readOrder 232 = .ok (.if_icmp .ge 18, 3) := by decide +kernel
theorem dX7_readOrder_235 : decode cX7_readOrder 235 = .ok (.aload_n 0, 1) := by decide +kernel
theorem dX7_readOrder_236 : decode cX7_readOrder 236 = .ok (.bipush 44, 2) := by decide +kernel
theorem dX7_readOrder_238 : decode cX7_readOrder 238 = .ok (.bipush 44, 2) := by decide +kernel
theorem dX7_readOrder_240 : decode cX7_readOrder 240 = .ok (.invokevirtual 201, 3) := by decide +kernel
theorem dX7_readOrder_243 : decode cX7_readOrder 243 = .ok (.ifCond .eq 7, 3) := by decide +kernel
theorem dX7_readOrder_246 : decode cX7_readOrder 246 = .ok (.iconst 1, 1) := by decide +kernel
theorem dX7_readOrder_247 : decode cX7_readOrder 247 = .ok (.goto 4, 3) := by decide +kernel
theorem dX7_readOrder_250 : decode cX7_readOrder 250 = .ok (.iconst 0, 1) := by decide +kernel
theorem dX7_readOrder_251 : decode cX7_readOrder 251 = .ok (.istore_n 3, 1) := by decide +kernel
theorem dX7_readOrder_252 : decode cX7_readOrder 252 = .ok (.goto (-57), 3) := by decide +kernel
theorem dX7_readOrder_255 : decode cX7_readOrder 255 = .ok (.aload_n 0, 1) := by decide +kernel
theorem dX7_readOrder_256 : decode cX7_readOrder 256 = .ok (.getfield 185, 3) := by decide +kernel
theorem dX7_readOrder_259 : decode cX7_readOrder 259 = .ok (.ifCond .ne 30, 3) := by decide +kernel
theorem dX7_readOrder_262 : decode cX7_readOrder 262 = .ok (.aload_n 0, 1) := by decide +kernel
theorem dX7_readOrder_263 : decode cX7_readOrder 263 = .ok (.getfield 207, 3) := by decide +kernel
theorem dX7_readOrder_266 : decode cX7_readOrder 266 = .ok (.iload_n 1, 1) := by decide +kernel
theorem dX7_readOrder_267 : decode cX7_readOrder 267 = .ok (.if_icmp .lt 14, 3) := by decide +kernel
theorem dX7_readOrder_270 : decode cX7_readOrder 270 = .ok (.aload_n 0, 1) := by decide +kernel
theorem dX7_readOrder_271 : decode cX7_readOrder 271 = .ok (.bipush 59, 2) := by decide +kernel
theorem dX7_readOrder_273 : decode cX7_readOrder 273 = .ok (.bipush 59, 2) := by decide +kernel
theorem dX7_readOrder_275 : decode cX7_readOrder 275 = .ok (.invokevirtual 201, 3) := by decide +kernel
theorem dX7_readOrder_278 : decode cX7_readOrder 278 = .ok (.ifCond .ne 11, 3) := by decide +kernel
theorem dX7_readOrder_281 : decode cX7_readOrder 281 = .ok (.aload_n 0, 1) := by decide +kernel
theorem dX7_readOrder_282 : decode cX7_readOrder 282 = .ok (.aload_n 0, 1) := by decide +kernel
theorem dX7_readOrder_283 : decode cX7_readOrder 283 = .ok (.getfield 194, 3) := by decide +kernel
theorem dX7_readOrder_286 : decode cX7_readOrder 286 = .ok (.invokevirtual 204, 3) := by decide +kernel
theorem dX7_readOrder_289 : decode cX7_readOrder 289 = .ok (.aload_n 0, 1) := by decide +kernel
theorem dX7_readOrder_290 : decode cX7_readOrder 290 = .ok (.dup, 1) := by decide +kernel
theorem dX7_readOrder_291 : decode cX7_readOrder 291 = .ok (.getfield 194, 3) := by decide +kernel
theorem dX7_readOrder_294 : decode cX7_readOrder 294 = .ok (.iconst 1, 1) := by decide +kernel
theorem dX7_readOrder_295 : decode cX7_readOrder 295 = .ok (.iadd, 1) := by decide +kernel
theorem dX7_readOrder_296 : decode cX7_readOrder 296 = .ok (.putfield 194, 3) := by decide +kernel
theorem dX7_readOrder_299 : decode cX7_readOrder 299 = .ok (.return_, 1) := by decide +kernel
theorem dX7_doOrder_0 : decode cX7_doOrder 0 = .ok (.aload_n 0, 1) := by decide +kernel
theorem dX7_doOrder_1 : decode cX7_doOrder 1 = .ok (.getfield 207, 3) := by decide +kernel
theorem dX7_doOrder_4 : decode cX7_doOrder 4 = .ok (.iconst 1, 1) := by decide +kernel
theorem dX7_doOrder_5 : decode cX7_doOrder 5 = .ok (.if_icmp .le 12, 3) := by decide +kernel
theorem dX7_doOrder_8 : decode cX7_doOrder 8 = .ok (.aload_n 0, 1) := by decide +kernel
theorem dX7_doOrder_9 : decode cX7_doOrder 9 = .ok (.getfield 22, 3) := by decide +kernel
theorem dX7_doOrder_12 : decode cX7_doOrder 12 = .ok (.iconst 1, 1) := by decide +kernel
theorem dX7_doOrder_13 : decode cX7_doOrder 13 = .ok (.iaload, 1) := by decide +kernel
theorem dX7_doOrder_14 : decode cX7_doOrder 14 = .ok (.goto 4, 3) := by decide +kernel
theorem dX7_doOrder_17 : decode cX7_doOrder 17 = .ok (.iconst (-1), 1) := by decide +kernel
theorem dX7_doOrder_18 : decode cX7_doOrder 18 = .ok (.istore_n 1, 1) := by decide +kernel
theorem dX7_doOrder_19 : decode cX7_doOrder 19 = .ok (.aload_n 0, 1) := by decide +kernel
theorem dX7_doOrder_20 : decode cX7_doOrder 20 = .ok (.getfield 207, 3) := by decide +kernel
theorem dX7_doOrder_23 : decode cX7_doOrder 23 = .ok (.iconst 2, 1) := by decide +kernel
theorem dX7_doOrder_24 : decode cX7_doOrder 24 = .ok (.if_icmp .le 12, 3) := by decide +kernel
theorem dX7_doOrder_27 : decode cX7_doOrder 27 = .ok (.aload_n 0, 1) := by decide +kernel
theorem dX7_doOrder_28 : decode cX7_doOrder 28 = .ok (.getfield 22, 3) := by decide +kernel
theorem dX7_doOrder_31 : decode cX7_doOrder 31 = .ok (.iconst 2, 1) := by decide +kernel
theorem dX7_doOrder_32 : decode cX7_doOrder 32 = .ok (.iaload, 1) := by decide +kernel
theorem dX7_doOrder_33 : decode cX7_doOrder 33 = .ok (.goto 4, 3) := by decide +kernel
theorem dX7_doOrder_36 : decode cX7_doOrder 36 = .ok (.iconst (-1), 1) := by decide +kernel
theorem dX7_doOrder_37 : decode cX7_doOrder 37 = .ok (.istore_n 2, 1) := by decide +kernel
theorem dX7_doOrder_38 : decode cX7_doOrder 38 = .ok (.aload_n 0, 1) := by decide +kernel
theorem dX7_doOrder_39 : decode cX7_doOrder 39 = .ok (.getfield 207, 3) := by decide +kernel
theorem dX7_doOrder_42 : decode cX7_doOrder 42 = .ok (.iconst 3, 1) := by decide +kernel
theorem dX7_doOrder_43 : decode cX7_doOrder 43 = .ok (.if_icmp .le 12, 3) := by decide +kernel
theorem dX7_doOrder_46 : decode cX7_doOrder 46 = .ok (.aload_n 0, 1) := by decide +kernel
theorem dX7_doOrder_47 : decode cX7_doOrder 47 = .ok (.getfield 22, 3) := by decide +kernel
theorem dX7_doOrder_50 : decode cX7_doOrder 50 = .ok (.iconst 3, 1) := by decide +kernel
theorem dX7_doOrder_51 : decode cX7_doOrder 51 = .ok (.iaload, 1) := by decide +kernel
theorem dX7_doOrder_52 : decode cX7_doOrder 52 = .ok (.goto 4, 3) := by decide +kernel
theorem dX7_doOrder_55 : decode cX7_doOrder 55 = .ok (.iconst (-1), 1) := by decide +kernel
theorem dX7_doOrder_56 : decode cX7_doOrder 56 = .ok (.istore_n 3, 1) := by decide +kernel
theorem dX7_doOrder_57 : decode cX7_doOrder 57 = .ok (.aload_n 0, 1) := by decide +kernel
theorem dX7_doOrder_58 : decode cX7_doOrder 58 = .ok (.getfield 213, 3) := by decide +kernel
theorem dX7_doOrder_61 : decode cX7_doOrder 61 = .ok (.ifCond .ne 18, 3) := by decide +kernel
theorem dX7_doOrder_64 : decode cX7_doOrder 64 = .ok (.aload_n 0, 1) := by decide +kernel
theorem dX7_doOrder_65 : decode cX7_doOrder 65 = .ok (.aload_n 0, 1) := by decide +kernel
theorem dX7_doOrder_66 : decode cX7_doOrder 66 = .ok (.getfield 22, 3) := by decide +kernel
theorem dX7_doOrder_69 : decode cX7_doOrder 69 = .ok (.iconst 0, 1) := by decide +kernel
theorem dX7_doOrder_70 : decode cX7_doOrder 70 = .ok (.iaload, 1) := by decide +kernel
theorem dX7_doOrder_71 : decode cX7_doOrder 71 = .ok (.iload_n 1, 1) := by decide +kernel
theorem dX7_doOrder_72 : decode cX7_doOrder 72 = .ok (.iload_n 2, 1) := by decide +kernel
theorem dX7_doOrder_73 : decode cX7_doOrder 73 = .ok (.invokevirtual 137, 3) := by decide +kernel
theorem dX7_doOrder_76 : decode cX7_doOrder 76 = .ok (.goto 67, 3) := by decide +kernel
theorem dX7_doOrder_79 : decode cX7_doOrder 79 = .ok (.aload_n 0, 1) := by decide +kernel
theorem dX7_doOrder_80 : decode cX7_doOrder 80 = .ok (.getfield 213, 3) := by decide +kernel
theorem dX7_doOrder_83 : decode cX7_doOrder 83 = .ok (.iconst 1, 1) := by decide +kernel
theorem dX7_doOrder_84 : decode cX7_doOrder 84 = .ok (.if_icmp .ne 19, 3) := by decide +kernel
theorem dX7_doOrder_87 : decode cX7_doOrder 87 = .ok (.aload_n 0, 1) := by decide +kernel
theorem dX7_doOrder_88 : decode cX7_doOrder 88 = .ok (.aload_n 0, 1) := by decide +kernel
theorem dX7_doOrder_89 : decode cX7_doOrder 89 = .ok (.getfield 22, 3) := by decide +kernel
theorem dX7_doOrder_92 : decode cX7_doOrder 92 = .ok (.iconst 0, 1) := by decide +kernel
theorem dX7_doOrder_93 : decode cX7_doOrder 93 = .ok (.iaload, 1) := by decide +kernel
theorem dX7_doOrder_94 : decode cX7_doOrder 94 = .ok (.iload_n 1, 1) := by decide +kernel
theorem dX7_doOrder_95 : decode cX7_doOrder 95 = .ok (.iload_n 2, 1) := by decide +kernel
theorem dX7_doOrder_96 : decode cX7_doOrder 96 = .ok (.iload_n 3, 1) := by decide +kernel
theorem dX7_doOrder_97 : decode cX7_doOrder 97 = .ok (.invokevirtual 141, 3) := by decide +kernel
theorem dX7_doOrder_100 : decode cX7_doOrder 100 = .ok (.goto 43, 3) := by decide +kernel
theorem dX7_doOrder_103 : decode cX7_doOrder 103 = .ok (.aload_n 0, 1) := by decide +kernel
theorem dX7_doOrder_104 : decode cX7_doOrder 104 = .ok (.getfield 213, 3) := by decide +kernel
theorem dX7_doOrder_107 : decode cX7_doOrder 107 = .ok (.iconst 2, 1) := by decide +kernel
theorem dX7_doOrder_108 : decode cX7_doOrder 108 = .ok (.if_icmp .ne 16, 3) := by decide +kernel
theorem dX7_doOrder_111 : decode cX7_doOrder 111 = .ok (.aload_n 0, 1) := by decide +kernel
theorem dX7_doOrder_112 : decode cX7_doOrder 112 = .ok (.aload_n 0, 1) := by decide +kernel
theorem dX7_doOrder_113 : decode cX7_doOrder 113 = .ok (.getfield 22, 3) := by decide +kernel
theorem dX7_doOrder_116 : decode cX7_doOrder 116 = .ok (.iconst 0, 1) := by decide +kernel
theorem dX7_doOrder_117 : decode cX7_doOrder 117 = .ok (.iaload, 1) := by decide +kernel
theorem dX7_doOrder_118 : decode cX7_doOrder 118 = .ok (.invokevirtual 145, 3) := by decide +kernel
theorem dX7_doOrder_121 : decode cX7_doOrder 121 = .ok (.goto 22, 3) := by decide +kernel
theorem dX7_doOrder_124 : decode cX7_doOrder 124 = .ok (.aload_n 0, 1) := by decide +kernel
theorem dX7_doOrder_125 : decode cX7_doOrder 125 = .ok (.getfield 213, 3) := by decide +kernel
theorem dX7_doOrder_128 : decode cX7_doOrder 128 = .ok (.iconst 3, 1) := by decide +kernel
theorem dX7_doOrder_129 : decode cX7_doOrder 129 = .ok (.if_icmp .ne 10, 3) := by decide +kernel
theorem dX7_doOrder_132 : decode cX7_doOrder 132 = .ok (.aload_n 0, 1) := by decide +kernel
theorem dX7_doOrder_133 : decode cX7_doOrder 133 = .ok (.invokevirtual 148, 3) := by decide +kernel
theorem dX7_doOrder_136 : decode cX7_doOrder 136 = .ok (.goto 7, 3) := by decide +kernel
theorem dX7_doOrder_139 : decode cX7_doOrder 139 = .ok (.aload_n 0, 1) := by decide +kernel
theorem dX7_doOrder_140 : decode cX7_doOrder 140 = .ok (.invokevirtual 151, 3) := by decide +kernel
theorem dX7_doOrder_143 : decode cX7_doOrder 143 = .ok (.ireturn, 1) := by decide +kernel
theorem dX7_go_0 : decode cX7_go 0 = .ok (.aload_n 0, 1) := by decide +kernel
theorem dX7_go_1 : decode cX7_go 1 = .ok (.iconst 0, 1) := by decide +kernel
theorem dX7_go_2 : decode cX7_go 2 = .ok (.putfield 188, 3) := by decide +kernel
theorem dX7_go_5 : decode cX7_go 5 = .ok (.aload_n 0, 1) := by decide +kernel
theorem dX7_go_6 : decode cX7_go 6 = .ok (.iconst 0, 1) := by decide +kernel
theorem dX7_go_7 : decode cX7_go 7 = .ok (.putfield 185, 3) := by decide +kernel
theorem dX7_go_10 : decode cX7_go 10 = .ok (.aload_n 0, 1) := by decide +kernel
theorem dX7_go_11 : decode cX7_go 11 = .ok (.iconst 0, 1) := by decide +kernel
theorem dX7_go_12 : decode cX7_go 12 = .ok (.putfield 191, 3) := by decide +kernel
theorem dX7_go_15 : decode cX7_go 15 = .ok (.iconst 0, 1) := by decide +kernel
theorem dX7_go_16 : decode cX7_go 16 = .ok (.istore_n 1, 1) := by decide +kernel
theorem dX7_go_17 : decode cX7_go 17 = .ok (.aload_n 0, 1) := by decide +kernel
theorem dX7_go_18 : decode cX7_go 18 = .ok (.getfield 188, 3) := by decide +kernel
theorem dX7_go_21 : decode cX7_go 21 = .ok (.aload_n 0, 1) := by decide +kernel
theorem dX7_go_22 : decode cX7_go 22 = .ok (.getfield 182, 3) := by decide +kernel
theorem dX7_go_25 : decode cX7_go 25 = .ok (.if_icmp .ge 80, 3) := by decide +kernel
theorem dX7_go_28 : decode cX7_go 28 = .ok (.aload_n 0, 1) := by decide +kernel
theorem dX7_go_29 : decode cX7_go 29 = .ok (.getfield 185, 3) := by decide +kernel
theorem dX7_go_32 : decode cX7_go 32 = .ok (.ifCond .ne 73, 3) := by decide +kernel
theorem dX7_go_35 : decode cX7_go 35 = .ok (.aload_n 0, 1) := by decide +kernel
theorem dX7_go_36 : decode cX7_go 36 = .ok (.invokevirtual 219, 3) := by decide +kernel
theorem dX7_go_39 : decode cX7_go 39 = .ok (.aload_n 0, 1) := by decide +kernel
theorem dX7_go_40 : decode cX7_go 40 = .ok (.getfield 185, 3) := by decide +kernel
theorem dX7_go_43 : decode cX7_go 43 = .ok (.ifCond .ne 34, 3) := by decide +kernel
theorem dX7_go_46 : decode cX7_go 46 = .ok (.aload_n 0, 1) := by decide +kernel
theorem dX7_go_47 : decode cX7_go 47 = .ok (.invokevirtual 222, 3) := by decide +kernel
theorem dX7_go_50 : decode cX7_go 50 = .ok (.istore_n 2, 1) := by decide +kernel
theorem dX7_go_51 : decode cX7_go 51 = .ok (.aload_n 0, 1) := by decide +kernel
theorem dX7_go_52 : decode cX7_go 52 = .ok (.iload_n 2, 1) := by decide +kernel
theorem dX7_go_53 : decode cX7_go 53 = .ok (.ifCond .ge 7, 3) := by decide +kernel
theorem dX7_go_56 : decode cX7_go 56 = .ok (.iconst 2, 1) := by decide +kernel
theorem dX7_go_57 : decode cX7_go 57 = .ok (.goto 4, 3) := by decide +kernel
theorem dX7_go_60 : decode cX7_go 60 = .ok (.iconst 0, 1) := by decide +kernel
theorem dX7_go_61 : decode cX7_go 61 = .ok (.putfield 185, 3) := by decide +kernel
theorem dX7_go_64 : decode cX7_go 64 = .ok (.aload_n 0, 1) := by decide +kernel
theorem dX7_go_65 : decode cX7_go 65 = .ok (.iload_n 2, 1) := by decide +kernel
theorem dX7_go_66 : decode cX7_go 66 = .ok (.ifCond .ge 7, 3) := by decide +kernel
theorem dX7_go_69 : decode cX7_go 69 = .ok (.iload_n 2, 1) := by decide +kernel
theorem dX7_go_70 : decode cX7_go 70 = .ok (.goto 4, 3) := by decide +kernel
theorem dX7_go_73 : decode cX7_go 73 = .ok (.iconst 0, 1) := by decide +kernel
theorem dX7_go_74 : decode cX7_go 74 = .ok (.putfield 191, 3) := by decide +kernel
theorem dX7_go_77 : decode cX7_go 77 = .ok (.aload_n 0, 1) := by decide +kernel
theorem dX7_go_78 : decode cX7_go 78 = .ok (.aload_n 0, 1) := by decide +kernel
theorem dX7_go_79 : decode cX7_go 79 = .ok (.getfield 185, 3) := by decide +kernel
theorem dX7_go_82 : decode cX7_go 82 = .ok (.ifCond .ne 10, 3) := by decide +kernel
theorem dX7_go_85 : decode cX7_go 85 = .ok (.aload_n 0, 1) := by decide +kernel
theorem dX7_go_86 : decode cX7_go 86 = .ok (.getfield 194, 3) := by decide +kernel
theorem dX7_go_89 : decode cX7_go 89 = .ok (.goto 7, 3) := by decide +kernel
theorem dX7_go_92 : decode cX7_go 92 = .ok (.aload_n 0, 1) := by decide +kernel
theorem dX7_go_93 : decode cX7_go 93 = .ok (.getfield 188, 3) := by decide +kernel
theorem dX7_go_96 : decode cX7_go 96 = .ok (.putfield 188, 3) := by decide +kernel
theorem dX7_go_99 : decode cX7_go 99 = .ok (.iinc 1 1, 3) := by decide +kernel
theorem dX7_go_102 : decode cX7_go 102 = .ok (.goto (-85), 3) := by decide +kernel
theorem dX7_go_105 : decode cX7_go 105 = .ok (.iload_n 1, 1) := by decide +kernel
theorem dX7_go_106 : decode cX7_go 106 = .ok (.ireturn, 1) := by decide +kernel
theorem dX7_fault_0 : decode cX7_fault 0 = .ok (.iload_n 1, 1) := by decide +kernel
theorem dX7_fault_1 : decode cX7_fault 1 = .ok (.iconst 0, 1) := by decide +kernel
theorem dX7_fault_2 : decode cX7_fault 2 = .ok (.iconst 2, 1) := by decide +kernel
theorem dX7_fault_3 : decode cX7_fault 3 = .ok (.invokestatic 32, 3) := by decide +kernel
theorem dX7_fault_6 : decode cX7_fault 6 = .ok (.ifCond .ne 6, 3) := by decide +kernel
theorem dX7_fault_9 : decode cX7_fault 9 = .ok (.ldc 109, 2) := by decide +kernel
theorem dX7_fault_11 : decode cX7_fault 11 = .ok (.ireturn, 1) := by decide +kernel
theorem dX7_fault_12 : decode cX7_fault 12 = .ok (.aload_n 0, 1) := by decide +kernel
theorem dX7_fault_13 : decode cX7_fault 13 = .ok (.invokevirtual 131, 3) := by decide +kernel
theorem dX7_fault_16 : decode cX7_fault 16 = .ok (.aload_n 0, 1) := by decide +kernel
theorem dX7_fault_17 : decode cX7_fault 17 = .ok (.invokevirtual 225, 3) := by decide +kernel
theorem dX7_fault_20 : decode cX7_fault 20 = .ok (.istore_n 2, 1) := by decide +kernel
theorem dX7_fault_21 : decode cX7_fault 21 = .ok (.aload_n 0, 1) := by decide +kernel
theorem dX7_fault_22 : decode cX7_fault 22 = .ok (.invokevirtual 25, 3) := by decide +kernel
theorem dX7_fault_25 : decode cX7_fault 25 = .ok (.aload_n 0, 1) := by decide +kernel
theorem dX7_fault_26 : decode cX7_fault 26 = .ok (.getfield 185, 3) := by decide +kernel
theorem dX7_fault_29 : decode cX7_fault 29 = .ok (.ifCond .ne 8, 3) := by decide +kernel
theorem dX7_fault_32 : decode cX7_fault 32 = .ok (.ldc 157, 2) := by decide +kernel
theorem dX7_fault_34 : decode cX7_fault 34 = .ok (.goto 30, 3) := by decide +kernel
theorem dX7_fault_37 : decode cX7_fault 37 = .ok (.iload_n 1, 1) := by decide +kernel
theorem dX7_fault_38 : decode cX7_fault 38 = .ok (.ifCond .ne 10, 3) := by decide +kernel
theorem dX7_fault_41 : decode cX7_fault 41 = .ok (.aload_n 0, 1) := by decide +kernel
theorem dX7_fault_42 : decode cX7_fault 42 = .ok (.getfield 188, 3) := by decide +kernel
theorem dX7_fault_45 : decode cX7_fault 45 = .ok (.goto 19, 3) := by decide +kernel
theorem dX7_fault_48 : decode cX7_fault 48 = .ok (.iload_n 1, 1) := by decide +kernel
theorem dX7_fault_49 : decode cX7_fault 49 = .ok (.iconst 1, 1) := by decide +kernel
theorem dX7_fault_50 : decode cX7_fault 50 = .ok (.if_icmp .ne 10, 3) := by decide +kernel
theorem dX7_fault_53 : decode cX7_fault 53 = .ok (.aload_n 0, 1) := by decide +kernel
theorem dX7_fault_54 : decode cX7_fault 54 = .ok (.getfield 185, 3) := by decide +kernel
theorem dX7_fault_57 : decode cX7_fault 57 = .ok (.goto 7, 3) := by decide +kernel
theorem dX7_fault_60 : decode cX7_fault 60 = .ok (.aload_n 0, 1) := by decide +kernel
theorem dX7_fault_61 : decode cX7_fault 61 = .ok (.getfield 191, 3) := by decide +kernel
theorem dX7_fault_64 : decode cX7_fault 64 = .ok (.ireturn, 1) := by decide +kernel
theorem dX7_play_0 : decode cX7_play 0 = .ok (.aload_n 0, 1) := by decide +kernel
theorem dX7_play_1 : decode cX7_play 1 = .ok (.invokevirtual 131, 3) := by decide +kernel
theorem dX7_play_4 : decode cX7_play 4 = .ok (.aload_n 0, 1) := by decide +kernel
theorem dX7_play_5 : decode cX7_play 5 = .ok (.invokevirtual 225, 3) := by decide +kernel
theorem dX7_play_8 : decode cX7_play 8 = .ok (.istore_n 1, 1) := by decide +kernel
theorem dX7_play_9 : decode cX7_play 9 = .ok (.aload_n 0, 1) := by decide +kernel
theorem dX7_play_10 : decode cX7_play 10 = .ok (.aload_n 0, 1) := by decide +kernel
theorem dX7_play_11 : decode cX7_play 11 = .ok (.getfield 185, 3) := by decide +kernel
theorem dX7_play_14 : decode cX7_play 14 = .ok (.ifCond .ne 7, 3) := by decide +kernel
theorem dX7_play_17 : decode cX7_play 17 = .ok (.iload_n 1, 1) := by decide +kernel
theorem dX7_play_18 : decode cX7_play 18 = .ok (.goto 5, 3) := by decide +kernel
theorem dX7_play_21 : decode cX7_play 21 = .ok (.ldc 110, 2) := by decide +kernel
theorem dX7_play_23 : decode cX7_play 23 = .ok (.invokevirtual 134, 3) := by decide +kernel
theorem dX7_play_26 : decode cX7_play 26 = .ok (.ireturn, 1) := by decide +kernel
theorem dL_law_0 : decode cL_law 0 = .ok (.new 7, 3) := by decide +kernel
theorem dL_law_3 : decode cL_law 3 = .ok (.dup, 1) := by decide +kernel
theorem dL_law_4 : decode cL_law 4 = .ok (.invokespecial 9, 3) := by decide +kernel
theorem dL_law_7 : decode cL_law 7 = .ok (.astore_n 1, 1) := by decide +kernel
theorem dL_law_8 : decode cL_law 8 = .ok (.new 10, 3) := by decide +kernel
theorem dL_law_11 : decode cL_law 11 = .ok (.dup, 1) := by decide +kernel
theorem dL_law_12 : decode cL_law 12 = .ok (.invokespecial 12, 3) := by decide +kernel
theorem dL_law_15 : decode cL_law 15 = .ok (.astore_n 2, 1) := by decide +kernel
theorem dL_law_16 : decode cL_law 16 = .ok (.iconst 0, 1) := by decide +kernel
theorem dL_law_17 : decode cL_law 17 = .ok (.istore_n 3, 1) := by decide +kernel
theorem dL_law_18 : decode cL_law 18 = .ok (.iload_n 3, 1) := by decide +kernel
theorem dL_law_19 : decode cL_law 19 = .ok (.aload_n 0, 1) := by decide +kernel
theorem dL_law_20 : decode cL_law 20 = .ok (.arraylength, 1) := by decide +kernel
theorem dL_law_21 : decode cL_law 21 = .ok (.iconst 5, 1) := by decide +kernel
theorem dL_law_22 : decode cL_law 22 = .ok (.isub, 1) := by decide +kernel
theorem dL_law_23 : decode cL_law 23 = .ok (.if_icmp .gt 695, 3) := by decide +kernel
theorem dL_law_26 : decode cL_law 26 = .ok (.aload_n 0, 1) := by decide +kernel
theorem dL_law_27 : decode cL_law 27 = .ok (.iload_n 3, 1) := by decide +kernel
theorem dL_law_28 : decode cL_law 28 = .ok (.iaload, 1) := by decide +kernel
theorem dL_law_29 : decode cL_law 29 = .ok (.bipush 31, 2) := by decide +kernel
theorem dL_law_31 : decode cL_law 31 = .ok (.iand, 1) := by decide +kernel
theorem dL_law_32 : decode cL_law 32 = .ok (.tableswitch 680 0 21 #[104, 157, 180, 223, 276, 299, 312, 325, 358, 391, 424, 457, 490, 513, 536, 559, 572, 595, 608, 631, 644, 667], 104) := by decide +kernel
theorem dL_law_136 : decode cL_law 136 = .ok (.aload_n 1, 1) := by decide +kernel
theorem dL_law_137 : decode cL_law 137 = .ok (.aload_n 0, 1) := by decide +kernel
theorem dL_law_138 : decode cL_law 138 = .ok (.iload_n 3, 1) := by decide +kernel
theorem dL_law_139 : decode cL_law 139 = .ok (.iconst 1, 1) := by decide +kernel
theorem dL_law_140 : decode cL_law 140 = .ok (.iadd, 1) := by decide +kernel
theorem dL_law_141 : decode cL_law 141 = .ok (.iaload, 1) := by decide +kernel
theorem dL_law_142 : decode cL_law 142 = .ok (.aload_n 0, 1) := by decide +kernel
theorem dL_law_143 : decode cL_law 143 = .ok (.iload_n 3, 1) := by decide +kernel
theorem dL_law_144 : decode cL_law 144 = .ok (.iconst 2, 1) := by decide +kernel
theorem dL_law_145 : decode cL_law 145 = .ok (.iadd, 1) := by decide +kernel
theorem dL_law_146 : decode cL_law 146 = .ok (.iaload, 1) := by decide +kernel
theorem dL_law_147 : decode cL_law 147 = .ok (.aload_n 0, 1) := by decide +kernel
theorem dL_law_148 : decode cL_law 148 = .ok (.iload_n 3, 1) := by decide +kernel
theorem dL_law_149 : decode cL_law 149 = .ok (.iconst 3, 1) := by decide +kernel
theorem dL_law_150 : decode cL_law 150 = .ok (.iadd, 1) := by decide +kernel
theorem dL_law_151 : decode cL_law 151 = .ok (.iaload, 1) := by decide +kernel
theorem dL_law_152 : decode cL_law 152 = .ok (.aload_n 0, 1) := by decide +kernel
theorem dL_law_153 : decode cL_law 153 = .ok (.iload_n 3, 1) := by decide +kernel
theorem dL_law_154 : decode cL_law 154 = .ok (.iconst 4, 1) := by decide +kernel
theorem dL_law_155 : decode cL_law 155 = .ok (.iadd, 1) := by decide +kernel
theorem dL_law_156 : decode cL_law 156 = .ok (.iaload, 1) := by decide +kernel
theorem dL_law_157 : decode cL_law 157 = .ok (.invokevirtual 13, 3) := by decide +kernel
theorem dL_law_160 : decode cL_law 160 = .ok (.aload_n 2, 1) := by decide +kernel
theorem dL_law_161 : decode cL_law 161 = .ok (.aload_n 0, 1) := by decide +kernel
theorem dL_law_162 : decode cL_law 162 = .ok (.iload_n 3, 1) := by decide +kernel
theorem dL_law_163 : decode cL_law 163 = .ok (.iconst 1, 1) := by decide +kernel
theorem dL_law_164 : decode cL_law 164 = .ok (.iadd, 1) := by decide +kernel
theorem dL_law_165 : decode cL_law 165 = .ok (.iaload, 1) := by decide +kernel
theorem dL_law_166 : decode cL_law 166 = .ok (.aload_n 0, 1) := by decide +kernel
theorem dL_law_167 : decode cL_law 167 = .ok (.iload_n 3, 1) := by decide +kernel
theorem dL_law_168 : decode cL_law 168 = .ok (.iconst 2, 1) := by decide +kernel
theorem dL_law_169 : decode cL_law 169 = .ok (.iadd, 1) := by decide +kernel
theorem dL_law_170 : decode cL_law 170 = .ok (.iaload, 1) := by decide +kernel
theorem dL_law_171 : decode cL_law 171 = .ok (.aload_n 0, 1) := by decide +kernel
theorem dL_law_172 : decode cL_law 172 = .ok (.iload_n 3, 1) := by decide +kernel
theorem dL_law_173 : decode cL_law 173 = .ok (.iconst 3, 1) := by decide +kernel
theorem dL_law_174 : decode cL_law 174 = .ok (.iadd, 1) := by decide +kernel
theorem dL_law_175 : decode cL_law 175 = .ok (.iaload, 1) := by decide +kernel
theorem dL_law_176 : decode cL_law 176 = .ok (.aload_n 0, 1) := by decide +kernel
theorem dL_law_177 : decode cL_law 177 = .ok (.iload_n 3, 1) := by decide +kernel
theorem dL_law_178 : decode cL_law 178 = .ok (.iconst 4, 1) := by decide +kernel
theorem dL_law_179 : decode cL_law 179 = .ok (.iadd, 1) := by decide +kernel
theorem dL_law_180 : decode cL_law 180 = .ok (.iaload, 1) := by decide +kernel
theorem dL_law_181 : decode cL_law 181 = .ok (.invokevirtual 17, 3) := by decide +kernel
theorem dL_law_184 : decode cL_law 184 = .ok (.if_icmp .eq 528, 3) := by decide +kernel
theorem dL_law_187 : decode cL_law 187 = .ok (.iconst 0, 1) := by decide +kernel
theorem dL_law_188 : decode cL_law 188 = .ok (.ireturn, 1) := by decide +kernel
theorem dL_law_189 : decode cL_law 189 = .ok (.aload_n 1, 1) := by decide +kernel
theorem dL_law_190 : decode cL_law 190 = .ok (.aload_n 0, 1) := by decide +kernel
theorem dL_law_191 : decode cL_law 191 = .ok (.iload_n 3, 1) := by decide +kernel
theorem dL_law_192 : decode cL_law 192 = .ok (.iconst 1, 1) := by decide +kernel
theorem dL_law_193 : decode cL_law 193 = .ok (.iadd, 1) := by decide +kernel
theorem dL_law_194 : decode cL_law 194 = .ok (.iaload, 1) := by decide +kernel
theorem dL_law_195 : decode cL_law 195 = .ok (.invokevirtual 18, 3) := by decide +kernel
theorem dL_law_198 : decode cL_law 198 = .ok (.aload_n 2, 1) := by decide +kernel
theorem dL_law_199 : decode cL_law 199 = .ok (.aload_n 0, 1) := by decide +kernel
theorem dL_law_200 : decode cL_law 200 = .ok (.iload_n 3, 1) := by decide +kernel
theorem dL_law_201 : decode cL_law 201 = .ok (.iconst 1, 1) := by decide +kernel
theorem dL_law_202 : decode cL_law 202 = .ok (.iadd, 1) := by decide +kernel
theorem dL_law_203 : decode cL_law 203 = .ok (.iaload, 1) := by decide +kernel
theorem dL_law_204 : decode cL_law 204 = .ok (.invokevirtual 22, 3) := by decide +kernel
theorem dL_law_207 : decode cL_law 207 = .ok (.if_icmp .eq 505, 3) := by decide +kernel
theorem dL_law_210 : decode cL_law 210 = .ok (.iconst 0, 1) := by decide +kernel
theorem dL_law_211 : decode cL_law 211 = .ok (.ireturn, 1) := by decide +kernel
theorem dL_law_212 : decode cL_law 212 = .ok (.aload_n 1, 1) := by decide +kernel
theorem dL_law_213 : decode cL_law 213 = .ok (.aload_n 0, 1) := by decide +kernel
theorem dL_law_214 : decode cL_law 214 = .ok (.iload_n 3, 1) := by decide +kernel
theorem dL_law_215 : decode cL_law 215 = .ok (.iconst 1, 1) := by decide +kernel
theorem dL_law_216 : decode cL_law 216 = .ok (.iadd, 1) := by decide +kernel
theorem dL_law_217 : decode cL_law 217 = .ok (.iaload, 1) := by decide +kernel
theorem dL_law_218 : decode cL_law 218 = .ok (.aload_n 0, 1) := by decide +kernel
theorem dL_law_219 : decode cL_law 219 = .ok (.iload_n 3, 1) := by decide +kernel
theorem dL_law_220 : decode cL_law 220 = .ok (.iconst 2, 1) := by decide +kernel
theorem dL_law_221 : decode cL_law 221 = .ok (.iadd, 1) := by decide +kernel
theorem dL_law_222 : decode cL_law 222 = .ok (.iaload, 1) := by decide +kernel
theorem dL_law_223 : decode cL_law 223 = .ok (.aload_n 0, 1) := by decide +kernel
theorem dL_law_224 : decode cL_law 224 = .ok (.iload_n 3, 1) := by decide +kernel
theorem dL_law_225 : decode cL_law 225 = .ok (.iconst 3, 1) := by decide +kernel
theorem dL_law_226 : decode cL_law 226 = .ok (.iadd, 1) := by decide +kernel
theorem dL_law_227 : decode cL_law 227 = .ok (.iaload, 1) := by decide +kernel
theorem dL_law_228 : decode cL_law 228 = .ok (.invokevirtual 23, 3) := by decide +kernel
theorem dL_law_231 : decode cL_law 231 = .ok (.aload_n 2, 1) := by decide +kernel
theorem dL_law_232 : decode cL_law 232 = .ok (.aload_n 0, 1) := by decide +kernel
theorem dL_law_233 : decode cL_law 233 = .ok (.iload_n 3, 1) := by decide +kernel
theorem dL_law_234 : decode cL_law 234 = .ok (.iconst 1, 1) := by decide +kernel
theorem dL_law_235 : decode cL_law 235 = .ok (.iadd, 1) := by decide +kernel
theorem dL_law_236 : decode cL_law 236 = .ok (.iaload, 1) := by decide +kernel
theorem dL_law_237 : decode cL_law 237 = .ok (.aload_n 0, 1) := by decide +kernel
theorem dL_law_238 : decode cL_law 238 = .ok (.iload_n 3, 1) := by decide +kernel
theorem dL_law_239 : decode cL_law 239 = .ok (.iconst 2, 1) := by decide +kernel
theorem dL_law_240 : decode cL_law 240 = .ok (.iadd, 1) := by decide +kernel
theorem dL_law_241 : decode cL_law 241 = .ok (.iaload, 1) := by decide +kernel
theorem dL_law_242 : decode cL_law 242 = .ok (.aload_n 0, 1) := by decide +kernel
theorem dL_law_243 : decode cL_law 243 = .ok (.iload_n 3, 1) := by decide +kernel
theorem dL_law_244 : decode cL_law 244 = .ok (.iconst 3, 1) := by decide +kernel
theorem dL_law_245 : decode cL_law 245 = .ok (.iadd, 1) := by decide +kernel
theorem dL_law_246 : decode cL_law 246 = .ok (.iaload, 1) := by decide +kernel
theorem dL_law_247 : decode cL_law 247 = .ok (.invokevirtual 27, 3) := by decide +kernel
theorem dL_law_250 : decode cL_law 250 = .ok (.if_icmp .eq 462, 3) := by decide +kernel
theorem dL_law_253 : decode cL_law 253 = .ok (.iconst 0, 1) := by decide +kernel
theorem dL_law_254 : decode cL_law 254 = .ok (.ireturn, 1) := by decide +kernel
theorem dL_law_255 : decode cL_law 255 = .ok (.aload_n 1, 1) := by decide +kernel
theorem dL_law_256 : decode cL_law 256 = .ok (.aload_n 0, 1) := by decide +kernel
theorem dL_law_257 : decode cL_law 257 = .ok (.iload_n 3, 1) := by decide +kernel
theorem dL_law_258 : decode cL_law 258 = .ok (.iconst 1, 1) := by decide +kernel
theorem dL_law_259 : decode cL_law 259 = .ok (.iadd, 1) := by decide +kernel
theorem dL_law_260 : decode cL_law 260 = .ok (.iaload, 1) := by decide +kernel
theorem dL_law_261 : decode cL_law 261 = .ok (.aload_n 0, 1) := by decide +kernel
theorem dL_law_262 : decode cL_law 262 = .ok (.iload_n 3, 1) := by decide +kernel
theorem dL_law_263 : decode cL_law 263 = .ok (.iconst 2, 1) := by decide +kernel
theorem dL_law_264 : decode cL_law 264 = .ok (.iadd, 1) := by decide +kernel
theorem dL_law_265 : decode cL_law 265 = .ok (.iaload, 1) := by decide +kernel
theorem dL_law_266 : decode cL_law 266 = .ok (.aload_n 0, 1) := by decide +kernel
theorem dL_law_267 : decode cL_law 267 = .ok (.iload_n 3, 1) := by decide +kernel
theorem dL_law_268 : decode cL_law 268 = .ok (.iconst 3, 1) := by decide +kernel
theorem dL_law_269 : decode cL_law 269 = .ok (.iadd, 1) := by decide +kernel
theorem dL_law_270 : decode cL_law 270 = .ok (.iaload, 1) := by decide +kernel
theorem dL_law_271 : decode cL_law 271 = .ok (.aload_n 0, 1) := by decide +kernel
theorem dL_law_272 : decode cL_law 272 = .ok (.iload_n 3, 1) := by decide +kernel
theorem dL_law_273 : decode cL_law 273 = .ok (.iconst 4, 1) := by decide +kernel
theorem dL_law_274 : decode cL_law 274 = .ok (.iadd, 1) := by decide +kernel
theorem dL_law_275 : decode cL_law 275 = .ok (.iaload, 1) := by decide +kernel
theorem dL_law_276 : decode cL_law 276 = .ok (.invokevirtual 28, 3) := by decide +kernel
theorem dL_law_279 : decode cL_law 279 = .ok (.aload_n 2, 1) := by decide +kernel
theorem dL_law_280 : decode cL_law 280 = .ok (.aload_n 0, 1) := by decide +kernel
theorem dL_law_281 : decode cL_law 281 = .ok (.iload_n 3, 1) := by decide +kernel
theorem dL_law_282 : decode cL_law 282 = .ok (.iconst 1, 1) := by decide +kernel
theorem dL_law_283 : decode cL_law 283 = .ok (.iadd, 1) := by decide +kernel
theorem dL_law_284 : decode cL_law 284 = .ok (.iaload, 1) := by decide +kernel
theorem dL_law_285 : decode cL_law 285 = .ok (.aload_n 0, 1) := by decide +kernel
theorem dL_law_286 : decode cL_law 286 = .ok (.iload_n 3, 1) := by decide +kernel
theorem dL_law_287 : decode cL_law 287 = .ok (.iconst 2, 1) := by decide +kernel
theorem dL_law_288 : decode cL_law 288 = .ok (.iadd, 1) := by decide +kernel
theorem dL_law_289 : decode cL_law 289 = .ok (.iaload, 1) := by decide +kernel
theorem dL_law_290 : decode cL_law 290 = .ok (.aload_n 0, 1) := by decide +kernel
theorem dL_law_291 : decode cL_law 291 = .ok (.iload_n 3, 1) := by decide +kernel
theorem dL_law_292 : decode cL_law 292 = .ok (.iconst 3, 1) := by decide +kernel
theorem dL_law_293 : decode cL_law 293 = .ok (.iadd, 1) := by decide +kernel
theorem dL_law_294 : decode cL_law 294 = .ok (.iaload, 1) := by decide +kernel
theorem dL_law_295 : decode cL_law 295 = .ok (.aload_n 0, 1) := by decide +kernel
theorem dL_law_296 : decode cL_law 296 = .ok (.iload_n 3, 1) := by decide +kernel
theorem dL_law_297 : decode cL_law 297 = .ok (.iconst 4, 1) := by decide +kernel
theorem dL_law_298 : decode cL_law 298 = .ok (.iadd, 1) := by decide +kernel
theorem dL_law_299 : decode cL_law 299 = .ok (.iaload, 1) := by decide +kernel
theorem dL_law_300 : decode cL_law 300 = .ok (.invokevirtual 31, 3) := by decide +kernel
theorem dL_law_303 : decode cL_law 303 = .ok (.if_icmp .eq 409, 3) := by decide +kernel
theorem dL_law_306 : decode cL_law 306 = .ok (.iconst 0, 1) := by decide +kernel
theorem dL_law_307 : decode cL_law 307 = .ok (.ireturn, 1) := by decide +kernel
theorem dL_law_308 : decode cL_law 308 = .ok (.aload_n 1, 1) := by decide +kernel
theorem dL_law_309 : decode cL_law 309 = .ok (.aload_n 0, 1) := by decide +kernel
theorem dL_law_310 : decode cL_law 310 = .ok (.iload_n 3, 1) := by decide +kernel
theorem dL_law_311 : decode cL_law 311 = .ok (.iconst 1, 1) := by decide +kernel
theorem dL_law_312 : decode cL_law 312 = .ok (.iadd, 1) := by decide +kernel
theorem dL_law_313 : decode cL_law 313 = .ok (.iaload, 1) := by decide +kernel
theorem dL_law_314 : decode cL_law 314 = .ok (.invokevirtual 32, 3) := by decide +kernel
theorem dL_law_317 : decode cL_law 317 = .ok (.aload_n 2, 1) := by decide +kernel
theorem dL_law_318 : decode cL_law 318 = .ok (.aload_n 0, 1) := by decide +kernel
theorem dL_law_319 : decode cL_law 319 = .ok (.iload_n 3, 1) := by decide +kernel
theorem dL_law_320 : decode cL_law 320 = .ok (.iconst 1, 1) := by decide +kernel
theorem dL_law_321 : decode cL_law 321 = .ok (.iadd, 1) := by decide +kernel
theorem dL_law_322 : decode cL_law 322 = .ok (.iaload, 1) := by decide +kernel
theorem dL_law_323 : decode cL_law 323 = .ok (.invokevirtual 35, 3) := by decide +kernel
theorem dL_law_326 : decode cL_law 326 = .ok (.if_icmp .eq 386, 3) := by decide +kernel
theorem dL_law_329 : decode cL_law 329 = .ok (.iconst 0, 1) := by decide +kernel
theorem dL_law_330 : decode cL_law 330 = .ok (.ireturn, 1) := by decide +kernel
theorem dL_law_331 : decode cL_law 331 = .ok (.aload_n 1, 1) := by decide +kernel
theorem dL_law_332 : decode cL_law 332 = .ok (.invokevirtual 36, 3) := by decide +kernel
theorem dL_law_335 : decode cL_law 335 = .ok (.aload_n 2, 1) := by decide +kernel
theorem dL_law_336 : decode cL_law 336 = .ok (.invokevirtual 40, 3) := by decide +kernel
theorem dL_law_339 : decode cL_law 339 = .ok (.if_icmp .eq 373, 3) := by decide +kernel
theorem dL_law_342 : decode cL_law 342 = .ok (.iconst 0, 1) := by decide +kernel
theorem dL_law_343 : decode cL_law 343 = .ok (.ireturn, 1) := by decide +kernel
theorem dL_law_344 : decode cL_law 344 = .ok (.aload_n 1, 1) := by decide +kernel
theorem dL_law_345 : decode cL_law 345 = .ok (.invokevirtual 41, 3) := by decide +kernel
theorem dL_law_348 : decode cL_law 348 = .ok (.aload_n 2, 1) := by decide +kernel
theorem dL_law_349 : decode cL_law 349 = .ok (.invokevirtual 44, 3) := by decide +kernel
theorem dL_law_352 : decode cL_law 352 = .ok (.if_icmp .eq 360, 3) := by decide +kernel
theorem dL_law_355 : decode cL_law 355 = .ok (.iconst 0, 1) := by decide +kernel
theorem dL_law_356 : decode cL_law 356 = .ok (.ireturn, 1) := by decide +kernel
theorem dL_law_357 : decode cL_law 357 = .ok (.aload_n 1, 1) := by decide +kernel
theorem dL_law_358 : decode cL_law 358 = .ok (.aload_n 0, 1) := by decide +kernel
theorem dL_law_359 : decode cL_law 359 = .ok (.iload_n 3, 1) := by decide +kernel
theorem dL_law_360 : decode cL_law 360 = .ok (.iconst 1, 1) := by decide +kernel
theorem dL_law_361 : decode cL_law 361 = .ok (.iadd, 1) := by decide +kernel
theorem dL_law_362 : decode cL_law 362 = .ok (.iaload, 1) := by decide +kernel
theorem dL_law_363 : decode cL_law 363 = .ok (.aload_n 0, 1) := by decide +kernel
theorem dL_law_364 : decode cL_law 364 = .ok (.iload_n 3, 1) := by decide +kernel
theorem dL_law_365 : decode cL_law 365 = .ok (.iconst 2, 1) := by decide +kernel
theorem dL_law_366 : decode cL_law 366 = .ok (.iadd, 1) := by decide +kernel
theorem dL_law_367 : decode cL_law 367 = .ok (.iaload, 1) := by decide +kernel
theorem dL_law_368 : decode cL_law 368 = .ok (.invokevirtual 45, 3) := by decide +kernel
theorem dL_law_371 : decode cL_law 371 = .ok (.aload_n 2, 1) := by decide +kernel
theorem dL_law_372 : decode cL_law 372 = .ok (.aload_n 0, 1) := by decide +kernel
theorem dL_law_373 : decode cL_law 373 = .ok (.iload_n 3, 1) := by decide +kernel
theorem dL_law_374 : decode cL_law 374 = .ok (.iconst 1, 1) := by decide +kernel
theorem dL_law_375 : decode cL_law 375 = .ok (.iadd, 1) := by decide +kernel
theorem dL_law_376 : decode cL_law 376 = .ok (.iaload, 1) := by decide +kernel
theorem dL_law_377 : decode cL_law 377 = .ok (.aload_n 0, 1) := by decide +kernel
theorem dL_law_378 : decode cL_law 378 = .ok (.iload_n 3, 1) := by decide +kernel
theorem dL_law_379 : decode cL_law 379 = .ok (.iconst 2, 1) := by decide +kernel
theorem dL_law_380 : decode cL_law 380 = .ok (.iadd, 1) := by decide +kernel
theorem dL_law_381 : decode cL_law 381 = .ok (.iaload, 1) := by decide +kernel
theorem dL_law_382 : decode cL_law 382 = .ok (.invokevirtual 49, 3) := by decide +kernel
theorem dL_law_385 : decode cL_law 385 = .ok (.if_icmp .eq 327, 3) := by decide +kernel
theorem dL_law_388 : decode cL_law 388 = .ok (.iconst 0, 1) := by decide +kernel
theorem dL_law_389 : decode cL_law 389 = .ok (.ireturn, 1) := by decide +kernel
theorem dL_law_390 : decode cL_law 390 = .ok (.aload_n 1, 1) := by decide +kernel
theorem dL_law_391 : decode cL_law 391 = .ok (.aload_n 0, 1) := by decide +kernel
theorem dL_law_392 : decode cL_law 392 = .ok (.iload_n 3, 1) := by decide +kernel
theorem dL_law_393 : decode cL_law 393 = .ok (.iconst 1, 1) := by decide +kernel
theorem dL_law_394 : decode cL_law 394 = .ok (.iadd, 1) := by decide +kernel
theorem dL_law_395 : decode cL_law 395 = .ok (.iaload, 1) := by decide +kernel
theorem dL_law_396 : decode cL_law 396 = .ok (.aload_n 0, 1) := by decide +kernel
theorem dL_law_397 : decode cL_law 397 = .ok (.iload_n 3, 1) := by decide +kernel
theorem dL_law_398 : decode cL_law 398 = .ok (.iconst 2, 1) := by decide +kernel
theorem dL_law_399 : decode cL_law 399 = .ok (.iadd, 1) := by decide +kernel
theorem dL_law_400 : decode cL_law 400 = .ok (.iaload, 1) := by decide +kernel
theorem dL_law_401 : decode cL_law 401 = .ok (.invokevirtual 50, 3) := by decide +kernel
theorem dL_law_404 : decode cL_law 404 = .ok (.aload_n 2, 1) := by decide +kernel
theorem dL_law_405 : decode cL_law 405 = .ok (.aload_n 0, 1) := by decide +kernel
theorem dL_law_406 : decode cL_law 406 = .ok (.iload_n 3, 1) := by decide +kernel
theorem dL_law_407 : decode cL_law 407 = .ok (.iconst 1, 1) := by decide +kernel
theorem dL_law_408 : decode cL_law 408 = .ok (.iadd, 1) := by decide +kernel
theorem dL_law_409 : decode cL_law 409 = .ok (.iaload, 1) := by decide +kernel
theorem dL_law_410 : decode cL_law 410 = .ok (.aload_n 0, 1) := by decide +kernel
theorem dL_law_411 : decode cL_law 411 = .ok (.iload_n 3, 1) := by decide +kernel
theorem dL_law_412 : decode cL_law 412 = .ok (.iconst 2, 1) := by decide +kernel
theorem dL_law_413 : decode cL_law 413 = .ok (.iadd, 1) := by decide +kernel
theorem dL_law_414 : decode cL_law 414 = .ok (.iaload, 1) := by decide +kernel
theorem dL_law_415 : decode cL_law 415 = .ok (.invokevirtual 53, 3) := by decide +kernel
theorem dL_law_418 : decode cL_law 418 = .ok (.if_icmp .eq 294, 3) := by decide +kernel
theorem dL_law_421 : decode cL_law 421 = .ok (.iconst 0, 1) := by decide +kernel
theorem dL_law_422 : decode cL_law 422 = .ok (.ireturn, 1) := by decide +kernel
theorem dL_law_423 : decode cL_law 423 = .ok (.aload_n 1, 1) := by decide +kernel
theorem dL_law_424 : decode cL_law 424 = .ok (.aload_n 0, 1) := by decide +kernel
theorem dL_law_425 : decode cL_law 425 = .ok (.iload_n 3, 1) := by decide +kernel
theorem dL_law_426 : decode cL_law 426 = .ok (.iconst 1, 1) := by decide +kernel
theorem dL_law_427 : decode cL_law 427 = .ok (.iadd, 1) := by decide +kernel
theorem dL_law_428 : decode cL_law 428 = .ok (.iaload, 1) := by decide +kernel
theorem dL_law_429 : decode cL_law 429 = .ok (.aload_n 0, 1) := by decide +kernel
theorem dL_law_430 : decode cL_law 430 = .ok (.iload_n 3, 1) := by decide +kernel
theorem dL_law_431 : decode cL_law 431 = .ok (.iconst 2, 1) := by decide +kernel
theorem dL_law_432 : decode cL_law 432 = .ok (.iadd, 1) := by decide +kernel
theorem dL_law_433 : decode cL_law 433 = .ok (.iaload, 1) := by decide +kernel
theorem dL_law_434 : decode cL_law 434 = .ok (.invokevirtual 54, 3) := by decide +kernel
theorem dL_law_437 : decode cL_law 437 = .ok (.aload_n 2, 1) := by decide +kernel
theorem dL_law_438 : decode cL_law 438 = .ok (.aload_n 0, 1) := by decide +kernel
theorem dL_law_439 : decode cL_law 439 = .ok (.iload_n 3, 1) := by decide +kernel
theorem dL_law_440 : decode cL_law 440 = .ok (.iconst 1, 1) := by decide +kernel
theorem dL_law_441 : decode cL_law 441 = .ok (.iadd, 1) := by decide +kernel
theorem dL_law_442 : decode cL_law 442 = .ok (.iaload, 1) := by decide +kernel
theorem dL_law_443 : decode cL_law 443 = .ok (.aload_n 0, 1) := by decide +kernel
theorem dL_law_444 : decode cL_law 444 = .ok (.iload_n 3, 1) := by decide +kernel
theorem dL_law_445 : decode cL_law 445 = .ok (.iconst 2, 1) := by decide +kernel
theorem dL_law_446 : decode cL_law 446 = .ok (.iadd, 1) := by decide +kernel
theorem dL_law_447 : decode cL_law 447 = .ok (.iaload, 1) := by decide +kernel
theorem dL_law_448 : decode cL_law 448 = .ok (.invokevirtual 57, 3) := by decide +kernel
theorem dL_law_451 : decode cL_law 451 = .ok (.if_icmp .eq 261, 3) := by decide +kernel
theorem dL_law_454 : decode cL_law 454 = .ok (.iconst 0, 1) := by decide +kernel
theorem dL_law_455 : decode cL_law 455 = .ok (.ireturn, 1) := by decide +kernel
theorem dL_law_456 : decode cL_law 456 = .ok (.aload_n 1, 1) := by decide +kernel
theorem dL_law_457 : decode cL_law 457 = .ok (.aload_n 0, 1) := by decide +kernel
theorem dL_law_458 : decode cL_law 458 = .ok (.iload_n 3, 1) := by decide +kernel
theorem dL_law_459 : decode cL_law 459 = .ok (.iconst 1, 1) := by decide +kernel
theorem dL_law_460 : decode cL_law 460 = .ok (.iadd, 1) := by decide +kernel
theorem dL_law_461 : decode cL_law 461 = .ok (.iaload, 1) := by decide +kernel
theorem dL_law_462 : decode cL_law 462 = .ok (.aload_n 0, 1) := by decide +kernel
theorem dL_law_463 : decode cL_law 463 = .ok (.iload_n 3, 1) := by decide +kernel
theorem dL_law_464 : decode cL_law 464 = .ok (.iconst 2, 1) := by decide +kernel
theorem dL_law_465 : decode cL_law 465 = .ok (.iadd, 1) := by decide +kernel
theorem dL_law_466 : decode cL_law 466 = .ok (.iaload, 1) := by decide +kernel
theorem dL_law_467 : decode cL_law 467 = .ok (.invokevirtual 58, 3) := by decide +kernel
theorem dL_law_470 : decode cL_law 470 = .ok (.aload_n 2, 1) := by decide +kernel
theorem dL_law_471 : decode cL_law 471 = .ok (.aload_n 0, 1) := by decide +kernel
theorem dL_law_472 : decode cL_law 472 = .ok (.iload_n 3, 1) := by decide +kernel
theorem dL_law_473 : decode cL_law 473 = .ok (.iconst 1, 1) := by decide +kernel
theorem dL_law_474 : decode cL_law 474 = .ok (.iadd, 1) := by decide +kernel
theorem dL_law_475 : decode cL_law 475 = .ok (.iaload, 1) := by decide +kernel
theorem dL_law_476 : decode cL_law 476 = .ok (.aload_n 0, 1) := by decide +kernel
theorem dL_law_477 : decode cL_law 477 = .ok (.iload_n 3, 1) := by decide +kernel
theorem dL_law_478 : decode cL_law 478 = .ok (.iconst 2, 1) := by decide +kernel
theorem dL_law_479 : decode cL_law 479 = .ok (.iadd, 1) := by decide +kernel
theorem dL_law_480 : decode cL_law 480 = .ok (.iaload, 1) := by decide +kernel
theorem dL_law_481 : decode cL_law 481 = .ok (.invokevirtual 61, 3) := by decide +kernel
theorem dL_law_484 : decode cL_law 484 = .ok (.if_icmp .eq 228, 3) := by decide +kernel
theorem dL_law_487 : decode cL_law 487 = .ok (.iconst 0, 1) := by decide +kernel
theorem dL_law_488 : decode cL_law 488 = .ok (.ireturn, 1) := by decide +kernel
theorem dL_law_489 : decode cL_law 489 = .ok (.aload_n 1, 1) := by decide +kernel
theorem dL_law_490 : decode cL_law 490 = .ok (.aload_n 0, 1) := by decide +kernel
theorem dL_law_491 : decode cL_law 491 = .ok (.iload_n 3, 1) := by decide +kernel
theorem dL_law_492 : decode cL_law 492 = .ok (.iconst 1, 1) := by decide +kernel
theorem dL_law_493 : decode cL_law 493 = .ok (.iadd, 1) := by decide +kernel
theorem dL_law_494 : decode cL_law 494 = .ok (.iaload, 1) := by decide +kernel
theorem dL_law_495 : decode cL_law 495 = .ok (.aload_n 0, 1) := by decide +kernel
theorem dL_law_496 : decode cL_law 496 = .ok (.iload_n 3, 1) := by decide +kernel
theorem dL_law_497 : decode cL_law 497 = .ok (.iconst 2, 1) := by decide +kernel
theorem dL_law_498 : decode cL_law 498 = .ok (.iadd, 1) := by decide +kernel
theorem dL_law_499 : decode cL_law 499 = .ok (.iaload, 1) := by decide +kernel
theorem dL_law_500 : decode cL_law 500 = .ok (.invokevirtual 62, 3) := by decide +kernel
theorem dL_law_503 : decode cL_law 503 = .ok (.aload_n 2, 1) := by decide +kernel
theorem dL_law_504 : decode cL_law 504 = .ok (.aload_n 0, 1) := by decide +kernel
theorem dL_law_505 : decode cL_law 505 = .ok (.iload_n 3, 1) := by decide +kernel
theorem dL_law_506 : decode cL_law 506 = .ok (.iconst 1, 1) := by decide +kernel
theorem dL_law_507 : decode cL_law 507 = .ok (.iadd, 1) := by decide +kernel
theorem dL_law_508 : decode cL_law 508 = .ok (.iaload, 1) := by decide +kernel
theorem dL_law_509 : decode cL_law 509 = .ok (.aload_n 0, 1) := by decide +kernel
theorem dL_law_510 : decode cL_law 510 = .ok (.iload_n 3, 1) := by decide +kernel
theorem dL_law_511 : decode cL_law 511 = .ok (.iconst 2, 1) := by decide +kernel
theorem dL_law_512 : decode cL_law 512 = .ok (.iadd, 1) := by decide +kernel
theorem dL_law_513 : decode cL_law 513 = .ok (.iaload, 1) := by decide +kernel
theorem dL_law_514 : decode cL_law 514 = .ok (.invokevirtual 65, 3) := by decide +kernel
theorem dL_law_517 : decode cL_law 517 = .ok (.if_icmp .eq 195, 3) := by decide +kernel
theorem dL_law_520 : decode cL_law 520 = .ok (.iconst 0, 1) := by decide +kernel
theorem dL_law_521 : decode cL_law 521 = .ok (.ireturn, 1) := by decide +kernel
theorem dL_law_522 : decode cL_law 522 = .ok (.aload_n 1, 1) := by decide +kernel
theorem dL_law_523 : decode cL_law 523 = .ok (.aload_n 0, 1) := by decide +kernel
theorem dL_law_524 : decode cL_law 524 = .ok (.iload_n 3, 1) := by decide +kernel
theorem dL_law_525 : decode cL_law 525 = .ok (.iconst 1, 1) := by decide +kernel
theorem dL_law_526 : decode cL_law 526 = .ok (.iadd, 1) := by decide +kernel
theorem dL_law_527 : decode cL_law 527 = .ok (.iaload, 1) := by decide +kernel
theorem dL_law_528 : decode cL_law 528 = .ok (.invokevirtual 66, 3) := by decide +kernel
theorem dL_law_531 : decode cL_law 531 = .ok (.aload_n 2, 1) := by decide +kernel
theorem dL_law_532 : decode cL_law 532 = .ok (.aload_n 0, 1) := by decide +kernel
theorem dL_law_533 : decode cL_law 533 = .ok (.iload_n 3, 1) := by decide +kernel
theorem dL_law_534 : decode cL_law 534 = .ok (.iconst 1, 1) := by decide +kernel
theorem dL_law_535 : decode cL_law 535 = .ok (.iadd, 1) := by decide +kernel
theorem dL_law_536 : decode cL_law 536 = .ok (.iaload, 1) := by decide +kernel
theorem dL_law_537 : decode cL_law 537 = .ok (.invokevirtual 69, 3) := by decide +kernel
theorem dL_law_540 : decode cL_law 540 = .ok (.if_icmp .eq 172, 3) := by decide +kernel
theorem dL_law_543 : decode cL_law 543 = .ok (.iconst 0, 1) := by decide +kernel
theorem dL_law_544 : decode cL_law 544 = .ok (.ireturn, 1) := by decide +kernel
theorem dL_law_545 : decode cL_law 545 = .ok (.aload_n 1, 1) := by decide +kernel
theorem dL_law_546 : decode cL_law 546 = .ok (.aload_n 0, 1) := by decide +kernel
theorem dL_law_547 : decode cL_law 547 = .ok (.iload_n 3, 1) := by decide +kernel
theorem dL_law_548 : decode cL_law 548 = .ok (.iconst 1, 1) := by decide +kernel
theorem dL_law_549 : decode cL_law 549 = .ok (.iadd, 1) := by decide +kernel
theorem dL_law_550 : decode cL_law 550 = .ok (.iaload, 1) := by decide +kernel
theorem dL_law_551 : decode cL_law 551 = .ok (.invokevirtual 70, 3) := by decide +kernel
theorem dL_law_554 : decode cL_law 554 = .ok (.aload_n 2, 1) := by decide +kernel
theorem dL_law_555 : decode cL_law 555 = .ok (.aload_n 0, 1) := by decide +kernel
theorem dL_law_556 : decode cL_law 556 = .ok (.iload_n 3, 1) := by decide +kernel
theorem dL_law_557 : decode cL_law 557 = .ok (.iconst 1, 1) := by decide +kernel
theorem dL_law_558 : decode cL_law 558 = .ok (.iadd, 1) := by decide +kernel
theorem dL_law_559 : decode cL_law 559 = .ok (.iaload, 1) := by decide +kernel
theorem dL_law_560 : decode cL_law 560 = .ok (.invokevirtual 73, 3) := by decide +kernel
theorem dL_law_563 : decode cL_law 563 = .ok (.if_icmp .eq 149, 3) := by decide +kernel
theorem dL_law_566 : decode cL_law 566 = .ok (.iconst 0, 1) := by decide +kernel
theorem dL_law_567 : decode cL_law 567 = .ok (.ireturn, 1) := by decide +kernel
theorem dL_law_568 : decode cL_law 568 = .ok (.aload_n 1, 1) := by decide +kernel
theorem dL_law_569 : decode cL_law 569 = .ok (.aload_n 0, 1) := by decide +kernel
theorem dL_law_570 : decode cL_law 570 = .ok (.iload_n 3, 1) := by decide +kernel
theorem dL_law_571 : decode cL_law 571 = .ok (.iconst 1, 1) := by decide +kernel
theorem dL_law_572 : decode cL_law 572 = .ok (.iadd, 1) := by decide +kernel
theorem dL_law_573 : decode cL_law 573 = .ok (.iaload, 1) := by decide +kernel
theorem dL_law_574 : decode cL_law 574 = .ok (.invokevirtual 74, 3) := by decide +kernel
theorem dL_law_577 : decode cL_law 577 = .ok (.aload_n 2, 1) := by decide +kernel
theorem dL_law_578 : decode cL_law 578 = .ok (.aload_n 0, 1) := by decide +kernel
theorem dL_law_579 : decode cL_law 579 = .ok (.iload_n 3, 1) := by decide +kernel
theorem dL_law_580 : decode cL_law 580 = .ok (.iconst 1, 1) := by decide +kernel
theorem dL_law_581 : decode cL_law 581 = .ok (.iadd, 1) := by decide +kernel
theorem dL_law_582 : decode cL_law 582 = .ok (.iaload, 1) := by decide +kernel
theorem dL_law_583 : decode cL_law 583 = .ok (.invokevirtual 77, 3) := by decide +kernel
theorem dL_law_586 : decode cL_law 586 = .ok (.if_icmp .eq 126, 3) := by decide +kernel
theorem dL_law_589 : decode cL_law 589 = .ok (.iconst 0, 1) := by decide +kernel
theorem dL_law_590 : decode cL_law 590 = .ok (.ireturn, 1) := by decide +kernel
theorem dL_law_591 : decode cL_law 591 = .ok (.aload_n 1, 1) := by decide +kernel
theorem dL_law_592 : decode cL_law 592 = .ok (.invokevirtual 78, 3) := by decide +kernel
theorem dL_law_595 : decode cL_law 595 = .ok (.aload_n 2, 1) := by decide +kernel
theorem dL_law_596 : decode cL_law 596 = .ok (.invokevirtual 81, 3) := by decide +kernel
theorem dL_law_599 : decode cL_law 599 = .ok (.if_icmp .eq 113, 3) := by decide +kernel
theorem dL_law_602 : decode cL_law 602 = .ok (.iconst 0, 1) := by decide +kernel
theorem dL_law_603 : decode cL_law 603 = .ok (.ireturn, 1) := by decide +kernel
theorem dL_law_604 : decode cL_law 604 = .ok (.aload_n 1, 1) := by decide +kernel
theorem dL_law_605 : decode cL_law 605 = .ok (.aload_n 0, 1) := by decide +kernel
theorem dL_law_606 : decode cL_law 606 = .ok (.iload_n 3, 1) := by decide +kernel
theorem dL_law_607 : decode cL_law 607 = .ok (.iconst 1, 1) := by decide +kernel
theorem dL_law_608 : decode cL_law 608 = .ok (.iadd, 1) := by decide +kernel
theorem dL_law_609 : decode cL_law 609 = .ok (.iaload, 1) := by decide +kernel
theorem dL_law_610 : decode cL_law 610 = .ok (.invokevirtual 82, 3) := by decide +kernel
theorem dL_law_613 : decode cL_law 613 = .ok (.aload_n 2, 1) := by decide +kernel
theorem dL_law_614 : decode cL_law 614 = .ok (.aload_n 0, 1) := by decide +kernel
theorem dL_law_615 : decode cL_law 615 = .ok (.iload_n 3, 1) := by decide +kernel
theorem dL_law_616 : decode cL_law 616 = .ok (.iconst 1, 1) := by decide +kernel
theorem dL_law_617 : decode cL_law 617 = .ok (.iadd, 1) := by decide +kernel
theorem dL_law_618 : decode cL_law 618 = .ok (.iaload, 1) := by decide +kernel
theorem dL_law_619 : decode cL_law 619 = .ok (.invokevirtual 85, 3) := by decide +kernel
theorem dL_law_622 : decode cL_law 622 = .ok (.if_icmp .eq 90, 3) := by decide +kernel
theorem dL_law_625 : decode cL_law 625 = .ok (.iconst 0, 1) := by decide +kernel
theorem dL_law_626 : decode cL_law 626 = .ok (.ireturn, 1) := by decide +kernel
theorem dL_law_627 : decode cL_law 627 = .ok (.aload_n 1, 1) := by decide +kernel
theorem dL_law_628 : decode cL_law 628 = .ok (.invokevirtual 86, 3) := by decide +kernel
theorem dL_law_631 : decode cL_law 631 = .ok (.aload_n 2, 1) := by decide +kernel
theorem dL_law_632 : decode cL_law 632 = .ok (.invokevirtual 89, 3) := by decide +kernel
theorem dL_law_635 : decode cL_law 635 = .ok (.if_icmp .eq 77, 3) := by decide +kernel
theorem dL_law_638 : decode cL_law 638 = .ok (.iconst 0, 1) := by decide +kernel
theorem dL_law_639 : decode cL_law 639 = .ok (.ireturn, 1) := by decide +kernel
theorem dL_law_640 : decode cL_law 640 = .ok (.aload_n 1, 1) := by decide +kernel
theorem dL_law_641 : decode cL_law 641 = .ok (.aload_n 0, 1) := by decide +kernel
theorem dL_law_642 : decode cL_law 642 = .ok (.iload_n 3, 1) := by decide +kernel
theorem dL_law_643 : decode cL_law 643 = .ok (.iconst 1, 1) := by decide +kernel
theorem dL_law_644 : decode cL_law 644 = .ok (.iadd, 1) := by decide +kernel
theorem dL_law_645 : decode cL_law 645 = .ok (.iaload, 1) := by decide +kernel
theorem dL_law_646 : decode cL_law 646 = .ok (.invokevirtual 90, 3) := by decide +kernel
theorem dL_law_649 : decode cL_law 649 = .ok (.aload_n 2, 1) := by decide +kernel
theorem dL_law_650 : decode cL_law 650 = .ok (.aload_n 0, 1) := by decide +kernel
theorem dL_law_651 : decode cL_law 651 = .ok (.iload_n 3, 1) := by decide +kernel
theorem dL_law_652 : decode cL_law 652 = .ok (.iconst 1, 1) := by decide +kernel
theorem dL_law_653 : decode cL_law 653 = .ok (.iadd, 1) := by decide +kernel
theorem dL_law_654 : decode cL_law 654 = .ok (.iaload, 1) := by decide +kernel
theorem dL_law_655 : decode cL_law 655 = .ok (.invokevirtual 93, 3) := by decide +kernel
theorem dL_law_658 : decode cL_law 658 = .ok (.if_icmp .eq 54, 3) := by decide +kernel
theorem dL_law_661 : decode cL_law 661 = .ok (.iconst 0, 1) := by decide +kernel
theorem dL_law_662 : decode cL_law 662 = .ok (.ireturn, 1) := by decide +kernel
theorem dL_law_663 : decode cL_law 663 = .ok (.aload_n 1, 1) := by decide +kernel
theorem dL_law_664 : decode cL_law 664 = .ok (.invokevirtual 94, 3) := by decide +kernel
theorem dL_law_667 : decode cL_law 667 = .ok (.aload_n 2, 1) := by decide +kernel
theorem dL_law_668 : decode cL_law 668 = .ok (.invokevirtual 97, 3) := by decide +kernel
theorem dL_law_671 : decode cL_law 671 = .ok (.if_icmp .eq 41, 3) := by decide +kernel
theorem dL_law_674 : decode cL_law 674 = .ok (.iconst 0, 1) := by decide +kernel
theorem dL_law_675 : decode cL_law 675 = .ok (.ireturn, 1) := by decide +kernel
theorem dL_law_676 : decode cL_law 676 = .ok (.aload_n 1, 1) := by decide +kernel
theorem dL_law_677 : decode cL_law 677 = .ok (.aload_n 0, 1) := by decide +kernel
theorem dL_law_678 : decode cL_law 678 = .ok (.iload_n 3, 1) := by decide +kernel
theorem dL_law_679 : decode cL_law 679 = .ok (.iconst 1, 1) := by decide +kernel
theorem dL_law_680 : decode cL_law 680 = .ok (.iadd, 1) := by decide +kernel
theorem dL_law_681 : decode cL_law 681 = .ok (.iaload, 1) := by decide +kernel
theorem dL_law_682 : decode cL_law 682 = .ok (.invokevirtual 98, 3) := by decide +kernel
theorem dL_law_685 : decode cL_law 685 = .ok (.aload_n 2, 1) := by decide +kernel
theorem dL_law_686 : decode cL_law 686 = .ok (.aload_n 0, 1) := by decide +kernel
theorem dL_law_687 : decode cL_law 687 = .ok (.iload_n 3, 1) := by decide +kernel
theorem dL_law_688 : decode cL_law 688 = .ok (.iconst 1, 1) := by decide +kernel
theorem dL_law_689 : decode cL_law 689 = .ok (.iadd, 1) := by decide +kernel
theorem dL_law_690 : decode cL_law 690 = .ok (.iaload, 1) := by decide +kernel
theorem dL_law_691 : decode cL_law 691 = .ok (.invokevirtual 101, 3) := by decide +kernel
theorem dL_law_694 : decode cL_law 694 = .ok (.if_icmp .eq 18, 3) := by decide +kernel
theorem dL_law_697 : decode cL_law 697 = .ok (.iconst 0, 1) := by decide +kernel
theorem dL_law_698 : decode cL_law 698 = .ok (.ireturn, 1) := by decide +kernel
theorem dL_law_699 : decode cL_law 699 = .ok (.aload_n 1, 1) := by decide +kernel
theorem dL_law_700 : decode cL_law 700 = .ok (.invokevirtual 102, 3) := by decide +kernel
theorem dL_law_703 : decode cL_law 703 = .ok (.aload_n 2, 1) := by decide +kernel
theorem dL_law_704 : decode cL_law 704 = .ok (.invokevirtual 105, 3) := by decide +kernel
theorem dL_law_707 : decode cL_law 707 = .ok (.if_icmp .eq 5, 3) := by decide +kernel
theorem dL_law_710 : decode cL_law 710 = .ok (.iconst 0, 1) := by decide +kernel
theorem dL_law_711 : decode cL_law 711 = .ok (.ireturn, 1) := by decide +kernel
theorem dL_law_712 : decode cL_law 712 = .ok (.iinc 3 5, 3) := by decide +kernel
theorem dL_law_715 : decode cL_law 715 = .ok (.goto (-697), 3) := by decide +kernel
theorem dL_law_718 : decode cL_law 718 = .ok (.iconst 1, 1) := by decide +kernel
theorem dL_law_719 : decode cL_law 719 = .ok (.ireturn, 1) := by decide +kernel
