theorem dX0_init_0 : decode cX0_init 0 = .ok (.aload_n 0, 1) := by decide +kernel
theorem dX0_init_1 : decode cX0_init 1 = .ok (.invokespecial 3, 3) := by decide +kernel
theorem dX0_init_4 : decode cX0_init 4 = .ok (.aload_n 0, 1) := by decide +kernel
theorem dX0_init_5 : decode cX0_init 5 = .ok (.bipush 16, 2) := by decide +kernel
theorem dX0_init_7 : decode cX0_init 7 = .ok (.newarray .boolean, 2) := by decide +kernel
theorem dX0_init_9 : decode cX0_init 9 = .ok (.putfield 9, 3) := by decide +kernel
theorem dX0_init_12 : decode cX0_init 12 = .ok (.aload_n 0, 1) := by decide +kernel
theorem dX0_init_13 : decode cX0_init 13 = .ok (.bipush 16, 2) := by decide +kernel
theorem dX0_init_15 : decode cX0_init 15 = .ok (.newarray .int, 2) := by decide +kernel
theorem dX0_init_17 : decode cX0_init 17 = .ok (.putfield 15, 3) := by decide +kernel
theorem dX0_init_20 : decode cX0_init 20 = .ok (.aload_n 0, 1) := by decide +kernel
theorem dX0_init_21 : decode cX0_init 21 = .ok (.bipush 16, 2) := by decide +kernel
theorem dX0_init_23 : decode cX0_init 23 = .ok (.newarray .int, 2) := by decide +kernel
theorem dX0_init_25 : decode cX0_init 25 = .ok (.putfield 19, 3) := by decide +kernel
theorem dX0_init_28 : decode cX0_init 28 = .ok (.aload_n 0, 1) := by decide +kernel
theorem dX0_init_29 : decode cX0_init 29 = .ok (.bipush 16, 2) := by decide +kernel
theorem dX0_init_31 : decode cX0_init 31 = .ok (.newarray .int, 2) := by decide +kernel
theorem dX0_init_33 : decode cX0_init 33 = .ok (.putfield 22, 3) := by decide +kernel
theorem dX0_init_36 : decode cX0_init 36 = .ok (.aload_n 0, 1) := by decide +kernel
theorem dX0_init_37 : decode cX0_init 37 = .ok (.bipush 16, 2) := by decide +kernel
theorem dX0_init_39 : decode cX0_init 39 = .ok (.newarray .boolean, 2) := by decide +kernel
theorem dX0_init_41 : decode cX0_init 41 = .ok (.putfield 25, 3) := by decide +kernel
theorem dX0_init_44 : decode cX0_init 44 = .ok (.aload_n 0, 1) := by decide +kernel
theorem dX0_init_45 : decode cX0_init 45 = .ok (.bipush 7, 2) := by decide +kernel
theorem dX0_init_47 : decode cX0_init 47 = .ok (.newarray .int, 2) := by decide +kernel
theorem dX0_init_49 : decode cX0_init 49 = .ok (.putfield 28, 3) := by decide +kernel
theorem dX0_init_52 : decode cX0_init 52 = .ok (.aload_n 0, 1) := by decide +kernel
theorem dX0_init_53 : decode cX0_init 53 = .ok (.aload_n 1, 1) := by decide +kernel
theorem dX0_init_54 : decode cX0_init 54 = .ok (.putfield 31, 3) := by decide +kernel
theorem dX0_init_57 : decode cX0_init 57 = .ok (.aload_n 0, 1) := by decide +kernel
theorem dX0_init_58 : decode cX0_init 58 = .ok (.aload_n 2, 1) := by decide +kernel
theorem dX0_init_59 : decode cX0_init 59 = .ok (.putfield 35, 3) := by decide +kernel
theorem dX0_init_62 : decode cX0_init 62 = .ok (.return_, 1) := by decide +kernel
theorem dX0_divide_0 : decode cX0_divide 0 = .ok (.aload_n 0, 1) := by decide +kernel
theorem dX0_divide_1 : decode cX0_divide 1 = .ok (.iconst 0, 1) := by decide +kernel
theorem dX0_divide_2 : decode cX0_divide 2 = .ok (.putfield 39, 3) := by decide +kernel
theorem dX0_divide_5 : decode cX0_divide 5 = .ok (.iconst 0, 1) := by decide +kernel
theorem dX0_divide_6 : decode cX0_divide 6 = .ok (.istore_n 2, 1) := by decide +kernel
theorem dX0_divide_7 : decode cX0_divide 7 = .ok (.iload_n 2, 1) := by decide +kernel
theorem dX0_divide_8 : decode cX0_divide 8 = .ok (.aload_n 0, 1) := by decide +kernel
theorem dX0_divide_9 : decode cX0_divide 9 = .ok (.getfield 31, 3) := by decide +kernel
theorem dX0_divide_12 : decode cX0_divide 12 = .ok (.getfield 43, 3) := by decide +kernel
theorem dX0_divide_15 : decode cX0_divide 15 = .ok (.if_icmp .ge 60, 3) := by decide +kernel
theorem dX0_divide_18 : decode cX0_divide 18 = .ok (.aload_n 0, 1) := by decide +kernel
theorem dX0_divide_19 : decode cX0_divide 19 = .ok (.getfield 9, 3) := by decide +kernel
theorem dX0_divide_22 : decode cX0_divide 22 = .ok (.iload_n 2, 1) := by decide +kernel
theorem dX0_divide_23 : decode cX0_divide 23 = .ok (.iload_n 2, 1) := by decide +kernel
theorem dX0_divide_24 : decode cX0_divide 24 = .ok (.ifCond .eq 16, 3) := by decide +kernel
theorem dX0_divide_27 : decode cX0_divide 27 = .ok (.aload_n 0, 1) := by decide +kernel
theorem dX0_divide_28 : decode cX0_divide 28 = .ok (.getfield 31, 3) := by decide +kernel
theorem dX0_divide_31 : decode cX0_divide 31 = .ok (.getfield 48, 3) := by decide +kernel
theorem dX0_divide_34 : decode cX0_divide 34 = .ok (.iload_n 2, 1) := by decide +kernel
theorem dX0_divide_35 : decode cX0_divide 35 = .ok (.iaload, 1) := by decide +kernel
theorem dX0_divide_36 : decode cX0_divide 36 = .ok (.iload_n 1, 1) := by decide +kernel
theorem dX0_divide_37 : decode cX0_divide 37 = .ok (.if_icmp .le 7, 3) := by decide +kernel
theorem dX0_divide_40 : decode cX0_divide 40 = .ok (.iconst 1, 1) := by decide +kernel
theorem dX0_divide_41 : decode cX0_divide 41 = .ok (.goto 4, 3) := by decide +kernel
theorem dX0_divide_44 : decode cX0_divide 44 = .ok (.iconst 0, 1) := by decide +kernel
theorem dX0_divide_45 : decode cX0_divide 45 = .ok (.bastore, 1) := by decide +kernel
theorem dX0_divide_46 : decode cX0_divide 46 = .ok (.aload_n 0, 1) := by decide +kernel
theorem dX0_divide_47 : decode cX0_divide 47 = .ok (.dup, 1) := by decide +kernel
theorem dX0_divide_48 : decode cX0_divide 48 = .ok (.getfield 39, 3) := by decide +kernel
theorem dX0_divide_51 : decode cX0_divide 51 = .ok (.aload_n 0, 1) := by decide +kernel
theorem dX0_divide_52 : decode cX0_divide 52 = .ok (.getfield 9, 3) := by decide +kernel
theorem dX0_divide_55 : decode cX0_divide 55 = .ok (.iload_n 2, 1) := by decide +kernel
theorem dX0_divide_56 : decode cX0_divide 56 = .ok (.baload, 1) := by decide +kernel
theorem dX0_divide_57 : decode cX0_divide 57 = .ok (.ifCond .eq 7, 3) := by decide +kernel
theorem dX0_divide_60 : decode cX0_divide 60 = .ok (.iconst 1, 1) := by decide +kernel
theorem dX0_divide_61 : decode cX0_divide 61 = .ok (.goto 4, 3) := by decide +kernel
theorem dX0_divide_64 : decode cX0_divide 64 = .ok (.iconst 0, 1) := by decide +kernel
theorem dX0_divide_65 : decode cX0_divide 65 = .ok (.iadd, 1) := by decide +kernel
theorem dX0_divide_66 : decode cX0_divide 66 = .ok (.putfield 39, 3) := by decide +kernel
theorem dX0_divide_69 : decode cX0_divide 69 = .ok (.iinc 2 1, 3) := by decide +kernel
theorem dX0_divide_72 : decode cX0_divide 72 = .ok (.goto (-65), 3) := by decide +kernel
theorem dX0_divide_75 : decode cX0_divide 75 = .ok (.return_, 1) := by decide +kernel
theorem dX0_makePlan_0 : decode cX0_makePlan 0 = .ok (.iload_n 1, 1) := by decide +kernel
theorem dX0_makePlan_1 : decode cX0_makePlan 1 = .ok (.iconst 2, 1) := by decide +kernel
theorem dX0_makePlan_2 : decode cX0_makePlan 2 = .ok (.if_icmp .ne 26, 3) := by decide +kernel
theorem dX0_makePlan_5 : decode cX0_makePlan 5 = .ok (.aload_n 0, 1) := by decide +kernel
theorem dX0_makePlan_6 : decode cX0_makePlan 6 = .ok (.ldc 51, 2) := by decide +kernel
theorem dX0_makePlan_8 : decode cX0_makePlan 8 = .ok (.putfield 52, 3) := by decide +kernel
theorem dX0_makePlan_11 : decode cX0_makePlan 11 = .ok (.aload_n 0, 1) := by decide +kernel
theorem dX0_makePlan_12 : decode cX0_makePlan 12 = .ok (.getfield 28, 3) := by decide +kernel
theorem dX0_makePlan_15 : decode cX0_makePlan 15 = .ok (.iconst 0, 1) := by decide +kernel
theorem dX0_makePlan_16 : decode cX0_makePlan 16 = .ok (.iconst 0, 1) := by decide +kernel
theorem dX0_makePlan_17 : decode cX0_makePlan 17 = .ok (.iastore, 1) := by decide +kernel
theorem dX0_makePlan_18 : decode cX0_makePlan 18 = .ok (.aload_n 0, 1) := by decide +kernel
theorem dX0_makePlan_19 : decode cX0_makePlan 19 = .ok (.iconst 1, 1) := by decide +kernel
theorem dX0_makePlan_20 : decode cX0_makePlan 20 = .ok (.iconst 1, 1) := by decide +kernel
theorem dX0_makePlan_21 : decode cX0_makePlan 21 = .ok (.iconst 0, 1) := by decide +kernel
theorem dX0_makePlan_22 : decode cX0_makePlan 22 = .ok (.invokevirtual 55, 3) := by decide +kernel
theorem dX0_makePlan_25 : decode cX0_makePlan 25 = .ok (.goto 20, 3) := by decide +kernel
theorem dX0_makePlan_28 : decode cX0_makePlan 28 = .ok (.aload_n 0, 1) := by decide +kernel
theorem dX0_makePlan_29 : decode cX0_makePlan 29 = .ok (.iload_n 1, 1) := by decide +kernel
theorem dX0_makePlan_30 : decode cX0_makePlan 30 = .ok (.ifCond .ne 7, 3) := by decide +kernel
theorem dX0_makePlan_33 : decode cX0_makePlan 33 = .ok (.iconst 1, 1) := by decide +kernel
theorem dX0_makePlan_34 : decode cX0_makePlan 34 = .ok (.goto 4, 3) := by decide +kernel
theorem dX0_makePlan_37 : decode cX0_makePlan 37 = .ok (.iconst 0, 1) := by decide +kernel
theorem dX0_makePlan_38 : decode cX0_makePlan 38 = .ok (.invokevirtual 59, 3) := by decide +kernel
theorem dX0_makePlan_41 : decode cX0_makePlan 41 = .ok (.aload_n 0, 1) := by decide +kernel
theorem dX0_makePlan_42 : decode cX0_makePlan 42 = .ok (.invokevirtual 63, 3) := by decide +kernel
theorem dX0_makePlan_45 : decode cX0_makePlan 45 = .ok (.aload_n 0, 1) := by decide +kernel
theorem dX0_makePlan_46 : decode cX0_makePlan 46 = .ok (.getfield 35, 3) := by decide +kernel
theorem dX0_makePlan_49 : decode cX0_makePlan 49 = .ok (.aload_n 0, 1) := by decide +kernel
theorem dX0_makePlan_50 : decode cX0_makePlan 50 = .ok (.getfield 39, 3) := by decide +kernel
theorem dX0_makePlan_53 : decode cX0_makePlan 53 = .ok (.putfield 66, 3) := by decide +kernel
theorem dX0_makePlan_56 : decode cX0_makePlan 56 = .ok (.aload_n 0, 1) := by decide +kernel
theorem dX0_makePlan_57 : decode cX0_makePlan 57 = .ok (.invokevirtual 71, 3) := by decide +kernel
theorem dX0_makePlan_60 : decode cX0_makePlan 60 = .ok (.return_, 1) := by decide +kernel
theorem dX0_placeCold_0 : decode cX0_placeCold 0 = .ok (.aload_n 0, 1) := by decide +kernel
theorem dX0_placeCold_1 : decode cX0_placeCold 1 = .ok (.getfield 39, 3) := by decide +kernel
theorem dX0_placeCold_4 : decode cX0_placeCold 4 = .ok (.istore_n 1, 1) := by decide +kernel
theorem dX0_placeCold_5 : decode cX0_placeCold 5 = .ok (.iconst 0, 1) := by decide +kernel
theorem dX0_placeCold_6 : decode cX0_placeCold 6 = .ok (.istore_n 2, 1) := by decide +kernel
theorem dX0_placeCold_7 : decode cX0_placeCold 7 = .ok (.iload_n 2, 1) := by decide +kernel
theorem dX0_placeCold_8 : decode cX0_placeCold 8 = .ok (.aload_n 0, 1) := by decide +kernel
theorem dX0_placeCold_9 : decode cX0_placeCold 9 = .ok (.getfield 31, 3) := by decide +kernel
theorem dX0_placeCold_12 : decode cX0_placeCold 12 = .ok (.getfield 43, 3) := by decide +kernel
theorem dX0_placeCold_15 : decode cX0_placeCold 15 = .ok (.if_icmp .ge 37, 3) := by decide +kernel
theorem dX0_placeCold_18 : decode cX0_placeCold 18 = .ok (.aload_n 0, 1) := by decide +kernel
theorem dX0_placeCold_19 : decode cX0_placeCold 19 = .ok (.getfield 9, 3) := by decide +kernel
theorem dX0_placeCold_22 : decode cX0_placeCold 22 = .ok (.iload_n 2, 1) := by decide +kernel
theorem dX0_placeCold_23 : decode cX0_placeCold 23 = .ok (.baload, 1) := by decide +kernel
theorem dX0_placeCold_24 : decode cX0_placeCold 24 = .ok (.ifCond .ne 22, 3) := by decide +kernel
theorem dX0_placeCold_27 : decode cX0_placeCold 27 = .ok (.iload_n 1, 1) := by decide +kernel
theorem dX0_placeCold_28 : decode cX0_placeCold 28 = .ok (.bipush 16, 2) := by decide +kernel
theorem dX0_placeCold_30 : decode cX0_placeCold 30 = .ok (.if_icmp .ge 16, 3) := by decide +kernel
theorem dX0_placeCold_33 : decode cX0_placeCold 33 = .ok (.aload_n 0, 1) := by decide +kernel
theorem dX0_placeCold_34 : decode cX0_placeCold 34 = .ok (.getfield 35, 3) := by decide +kernel
theorem dX0_placeCold_37 : decode cX0_placeCold 37 = .ok (.getfield 74, 3) := by decide +kernel
theorem dX0_placeCold_40 : decode cX0_placeCold 40 = .ok (.iload_n 1, 1) := by decide +kernel
theorem dX0_placeCold_41 : decode cX0_placeCold 41 = .ok (.iload_n 2, 1) := by decide +kernel
theorem dX0_placeCold_42 : decode cX0_placeCold 42 = .ok (.iastore, 1) := by decide +kernel
theorem dX0_placeCold_43 : decode cX0_placeCold 43 = .ok (.iinc 1 1, 3) := by decide +kernel
theorem dX0_placeCold_46 : decode cX0_placeCold 46 = .ok (.iinc 2 1, 3) := by decide +kernel
theorem dX0_placeCold_49 : decode cX0_placeCold 49 = .ok (.goto (-42), 3) := by decide +kernel
theorem dX0_placeCold_52 : decode cX0_placeCold 52 = .ok (.return_, 1) := by decide +kernel
theorem dX0_joinChains_0 : decode cX0_joinChains 0 = .ok (.iconst 0, 1) := by decide +kernel
theorem dX0_joinChains_1 : decode cX0_joinChains 1 = .ok (.istore_n 2, 1) := by decide +kernel
theorem dX0_joinChains_2 : decode cX0_joinChains 2 = .ok (.iload_n 2, 1) := by decide +kernel
theorem dX0_joinChains_3 : decode cX0_joinChains 3 = .ok (.aload_n 0, 1) := by decide +kernel
theorem dX0_joinChains_4 : decode cX0_joinChains 4 = .ok (.getfield 31, 3) := by decide +kernel
theorem dX0_joinChains_7 : decode cX0_joinChains 7 = .ok (.getfield 43, 3) := by decide +kernel
theorem dX0_joinChains_10 : decode cX0_joinChains 10 = .ok (.if_icmp .ge 23, 3) := by decide +kernel
theorem dX0_joinChains_13 : decode cX0_joinChains 13 = .ok (.aload_n 0, 1) := by decide +kernel
theorem dX0_joinChains_14 : decode cX0_joinChains 14 = .ok (.getfield 15, 3) := by decide +kernel
theorem dX0_joinChains_17 : decode cX0_joinChains 17 = .ok (.iload_n 2, 1) := by decide +kernel
theorem dX0_joinChains_18 : decode cX0_joinChains 18 = .ok (.iconst (-1), 1) := by decide +kernel
theorem dX0_joinChains_19 : decode cX0_joinChains 19 = .ok (.iastore, 1) := by decide +kernel
theorem dX0_joinChains_20 : decode cX0_joinChains 20 = .ok (.aload_n 0, 1) := by decide +kernel
theorem dX0_joinChains_21 : decode cX0_joinChains 21 = .ok (.getfield 19, 3) := by decide +kernel
theorem dX0_joinChains_24 : decode cX0_joinChains 24 = .ok (.iload_n 2, 1) := by decide +kernel
theorem dX0_joinChains_25 : decode cX0_joinChains 25 = .ok (.iload_n 2, 1) := by decide +kernel
theorem dX0_joinChains_26 : decode cX0_joinChains 26 = .ok (.iastore, 1) := by decide +kernel
theorem dX0_joinChains_27 : decode cX0_joinChains 27 = .ok (.iinc 2 1, 3) := by decide +kernel
theorem dX0_joinChains_30 : decode cX0_joinChains 30 = .ok (.goto (-28), 3) := by decide +kernel
theorem dX0_joinChains_33 : decode cX0_joinChains 33 = .ok (.iconst 1, 1) := by decide +kernel
theorem dX0_joinChains_34 : decode cX0_joinChains 34 = .ok (.istore_n 2, 1) := by decide +kernel
theorem dX0_joinChains_35 : decode cX0_joinChains 35 = .ok (.iconst 0, 1) := by decide +kernel
theorem dX0_joinChains_36 : decode cX0_joinChains 36 = .ok (.istore_n 3, 1) := by decide +kernel
theorem dX0_joinChains_37 : decode cX0_joinChains 37 = .ok (.iload_n 3, 1) := by decide +kernel
theorem dX0_joinChains_38 : decode cX0_joinChains 38 = .ok (.bipush 16, 2) := by decide +kernel
theorem dX0_joinChains_40 : decode cX0_joinChains 40 = .ok (.if_icmp .ge 19, 3) := by decide +kernel
theorem dX0_joinChains_43 : decode cX0_joinChains 43 = .ok (.iload_n 2, 1) := by decide +kernel
theorem dX0_joinChains_44 : decode cX0_joinChains 44 = .ok (.ifCond .eq 15, 3) := by decide +kernel
theorem dX0_joinChains_47 : decode cX0_joinChains 47 = .ok (.aload_n 0, 1) := by decide +kernel
theorem dX0_joinChains_48 : decode cX0_joinChains 48 = .ok (.iload_n 1, 1) := by decide +kernel
theorem dX0_joinChains_49 : decode cX0_joinChains 49 = .ok (.invokevirtual 77, 3) := by decide +kernel
theorem dX0_joinChains_52 : decode cX0_joinChains 52 = .ok (.istore_n 2, 1) := by decide +kernel
theorem dX0_joinChains_53 : decode cX0_joinChains 53 = .ok (.iinc 3 1, 3) := by decide +kernel
theorem dX0_joinChains_56 : decode cX0_joinChains 56 = .ok (.goto (-19), 3) := by decide +kernel
theorem dX0_joinChains_59 : decode cX0_joinChains 59 = .ok (.return_, 1) := by decide +kernel
theorem dX0_joinBest_0 : decode cX0_joinBest 0 = .ok (.aload_n 0, 1) := by decide +kernel
theorem dX0_joinBest_1 : decode cX0_joinBest 1 = .ok (.iconst 0, 1) := by decide +kernel
theorem dX0_joinBest_2 : decode cX0_joinBest 2 = .ok (.putfield 81, 3) := by decide +kernel
theorem dX0_joinBest_5 : decode cX0_joinBest 5 = .ok (.iconst 0, 1) := by decide +kernel
theorem dX0_joinBest_6 : decode cX0_joinBest 6 = .ok (.istore_n 2, 1) := by decide +kernel
theorem dX0_joinBest_7 : decode cX0_joinBest 7 = .ok (.iload_n 2, 1) := by decide +kernel
theorem dX0_joinBest_8 : decode cX0_joinBest 8 = .ok (.aload_n 0, 1) := by decide +kernel
theorem dX0_joinBest_9 : decode cX0_joinBest 9 = .ok (.getfield 31, 3) := by decide +kernel
theorem dX0_joinBest_12 : decode cX0_joinBest 12 = .ok (.getfield 43, 3) := by decide +kernel
theorem dX0_joinBest_15 : decode cX0_joinBest 15 = .ok (.if_icmp .ge 81, 3) := by decide +kernel
theorem dX0_joinBest_18 : decode cX0_joinBest 18 = .ok (.aload_n 0, 1) := by decide +kernel
theorem dX0_joinBest_19 : decode cX0_joinBest 19 = .ok (.getfield 31, 3) := by decide +kernel
theorem dX0_joinBest_22 : decode cX0_joinBest 22 = .ok (.getfield 84, 3) := by decide +kernel
theorem dX0_joinBest_25 : decode cX0_joinBest 25 = .ok (.iload_n 2, 1) := by decide +kernel
theorem dX0_joinBest_26 : decode cX0_joinBest 26 = .ok (.iaload, 1) := by decide +kernel
theorem dX0_joinBest_27 : decode cX0_joinBest 27 = .ok (.istore_n 3, 1) := by decide +kernel
theorem dX0_joinBest_28 : decode cX0_joinBest 28 = .ok (.aload_n 0, 1) := by decide +kernel
theorem dX0_joinBest_29 : decode cX0_joinBest 29 = .ok (.getfield 31, 3) := by decide +kernel
theorem dX0_joinBest_32 : decode cX0_joinBest 32 = .ok (.getfield 87, 3) := by decide +kernel
theorem dX0_joinBest_35 : decode cX0_joinBest 35 = .ok (.iload_n 2, 1) := by decide +kernel
theorem dX0_joinBest_36 : decode cX0_joinBest 36 = .ok (.iaload, 1) := by decide +kernel
theorem dX0_joinBest_37 : decode cX0_joinBest 37 = .ok (.istore 4, 2) := by decide +kernel
theorem dX0_joinBest_39 : decode cX0_joinBest 39 = .ok (.iload_n 1, 1) := by decide +kernel
theorem dX0_joinBest_40 : decode cX0_joinBest 40 = .ok (.ifCond .ne 9, 3) := by decide +kernel
theorem dX0_joinBest_43 : decode cX0_joinBest 43 = .ok (.iload_n 3, 1) := by decide +kernel
theorem dX0_joinBest_44 : decode cX0_joinBest 44 = .ok (.iload 4, 2) := by decide +kernel
theorem dX0_joinBest_46 : decode cX0_joinBest 46 = .ok (.if_icmp .ge 7, 3) := by decide +kernel
theorem dX0_joinBest_49 : decode cX0_joinBest 49 = .ok (.iconst 1, 1) := by decide +kernel
theorem dX0_joinBest_50 : decode cX0_joinBest 50 = .ok (.goto 4, 3) := by decide +kernel
theorem dX0_joinBest_53 : decode cX0_joinBest 53 = .ok (.iconst 0, 1) := by decide +kernel
theorem dX0_joinBest_54 : decode cX0_joinBest 54 = .ok (.istore 5, 2) := by decide +kernel
theorem dX0_joinBest_56 : decode cX0_joinBest 56 = .ok (.aload_n 0, 1) := by decide +kernel
theorem dX0_joinBest_57 : decode cX0_joinBest 57 = .ok (.iload_n 2, 1) := by decide +kernel
theorem dX0_joinBest_58 : decode cX0_joinBest 58 = .ok (.iload 5, 2) := by decide +kernel
theorem dX0_joinBest_60 : decode cX0_joinBest 60 = .ok (.ifCond .eq 7, 3) := by decide +kernel
theorem dX0_joinBest_63 : decode cX0_joinBest 63 = .ok (.iload_n 3, 1) := by decide +kernel
theorem dX0_joinBest_64 : decode cX0_joinBest 64 = .ok (.goto 5, 3) := by decide +kernel
theorem dX0_joinBest_67 : decode cX0_joinBest 67 = .ok (.iload 4, 2) := by decide +kernel
theorem dX0_joinBest_69 : decode cX0_joinBest 69 = .ok (.iload_n 1, 1) := by decide +kernel
theorem dX0_joinBest_70 : decode cX0_joinBest 70 = .ok (.invokevirtual 90, 3) := by decide +kernel
theorem dX0_joinBest_73 : decode cX0_joinBest 73 = .ok (.aload_n 0, 1) := by decide +kernel
theorem dX0_joinBest_74 : decode cX0_joinBest 74 = .ok (.iload_n 2, 1) := by decide +kernel
theorem dX0_joinBest_75 : decode cX0_joinBest 75 = .ok (.iload 5, 2) := by decide +kernel
theorem dX0_joinBest_77 : decode cX0_joinBest 77 = .ok (.ifCond .eq 8, 3) := by decide +kernel
theorem dX0_joinBest_80 : decode cX0_joinBest 80 = .ok (.iload 4, 2) := by decide +kernel
theorem dX0_joinBest_82 : decode cX0_joinBest 82 = .ok (.goto 4, 3) := by decide +kernel
theorem dX0_joinBest_85 : decode cX0_joinBest 85 = .ok (.iload_n 3, 1) := by decide +kernel
theorem dX0_joinBest_86 : decode cX0_joinBest 86 = .ok (.iload_n 1, 1) := by decide +kernel
theorem dX0_joinBest_87 : decode cX0_joinBest 87 = .ok (.invokevirtual 90, 3) := by decide +kernel
theorem dX0_joinBest_90 : decode cX0_joinBest 90 = .ok (.iinc 2 1, 3) := by decide +kernel
theorem dX0_joinBest_93 : decode cX0_joinBest 93 = .ok (.goto (-86), 3) := by decide +kernel
theorem dX0_joinBest_96 : decode cX0_joinBest 96 = .ok (.aload_n 0, 1) := by decide +kernel
theorem dX0_joinBest_97 : decode cX0_joinBest 97 = .ok (.getfield 81, 3) := by decide +kernel
theorem dX0_joinBest_100 : decode cX0_joinBest 100 = .ok (.ifCond .le 15, 3) := by decide +kernel
theorem dX0_joinBest_103 : decode cX0_joinBest 103 = .ok (.aload_n 0, 1) := by decide +kernel
theorem dX0_joinBest_104 : decode cX0_joinBest 104 = .ok (.aload_n 0, 1) := by decide +kernel
theorem dX0_joinBest_105 : decode cX0_joinBest 105 = .ok (.getfield 94, 3) := by decide +kernel
theorem dX0_joinBest_108 : decode cX0_joinBest 108 = .ok (.aload_n 0, 1) := by decide +kernel
theorem dX0_joinBest_109 : decode cX0_joinBest 109 = .ok (.getfield 97, 3) := by decide +kernel
theorem dX0_joinBest_112 : decode cX0_joinBest 112 = .ok (.invokevirtual 100, 3) := by decide +kernel
theorem dX0_joinBest_115 : decode cX0_joinBest 115 = .ok (.aload_n 0, 1) := by decide +kernel
theorem dX0_joinBest_116 : decode cX0_joinBest 116 = .ok (.getfield 81, 3) := by decide +kernel
theorem dX0_joinBest_119 : decode cX0_joinBest 119 = .ok (.ifCond .le 7, 3) := by decide +kernel
theorem dX0_joinBest_122 : decode cX0_joinBest 122 = .ok (.iconst 1, 1) := by decide +kernel
theorem dX0_joinBest_123 : decode cX0_joinBest 123 = .ok (.goto 4, 3) := by decide +kernel
theorem dX0_joinBest_126 : decode cX0_joinBest 126 = .ok (.iconst 0, 1) := by decide +kernel
theorem dX0_joinBest_127 : decode cX0_joinBest 127 = .ok (.ireturn, 1) := by decide +kernel
theorem dX0_weigh_0 : decode cX0_weigh 0 = .ok (.aload_n 0, 1) := by decide +kernel
theorem dX0_weigh_1 : decode cX0_weigh 1 = .ok (.iload_n 1, 1) := by decide +kernel
theorem dX0_weigh_2 : decode cX0_weigh 2 = .ok (.iload_n 2, 1) := by decide +kernel
theorem dX0_weigh_3 : decode cX0_weigh 3 = .ok (.invokevirtual 104, 3) := by decide +kernel
theorem dX0_weigh_6 : decode cX0_weigh 6 = .ok (.ifCond .ne 4, 3) := by decide +kernel
theorem dX0_weigh_9 : decode cX0_weigh 9 = .ok (.return_, 1) := by decide +kernel
theorem dX0_weigh_10 : decode cX0_weigh 10 = .ok (.iload_n 3, 1) := by decide +kernel
theorem dX0_weigh_11 : decode cX0_weigh 11 = .ok (.ifCond .eq 15, 3) := by decide +kernel
theorem dX0_weigh_14 : decode cX0_weigh 14 = .ok (.aload_n 0, 1) := by decide +kernel
theorem dX0_weigh_15 : decode cX0_weigh 15 = .ok (.getfield 31, 3) := by decide +kernel
theorem dX0_weigh_18 : decode cX0_weigh 18 = .ok (.iload_n 1, 1) := by decide +kernel
theorem dX0_weigh_19 : decode cX0_weigh 19 = .ok (.iload_n 2, 1) := by decide +kernel
theorem dX0_weigh_20 : decode cX0_weigh 20 = .ok (.invokevirtual 108, 3) := by decide +kernel
theorem dX0_weigh_23 : decode cX0_weigh 23 = .ok (.goto 22, 3) := by decide +kernel
theorem dX0_weigh_26 : decode cX0_weigh 26 = .ok (.aload_n 0, 1) := by decide +kernel
theorem dX0_weigh_27 : decode cX0_weigh 27 = .ok (.getfield 31, 3) := by decide +kernel
theorem dX0_weigh_30 : decode cX0_weigh 30 = .ok (.iload_n 1, 1) := by decide +kernel
theorem dX0_weigh_31 : decode cX0_weigh 31 = .ok (.iconst (-1), 1) := by decide +kernel
theorem dX0_weigh_32 : decode cX0_weigh 32 = .ok (.invokevirtual 112, 3) := by decide +kernel
theorem dX0_weigh_35 : decode cX0_weigh 35 = .ok (.aload_n 0, 1) := by decide +kernel
theorem dX0_weigh_36 : decode cX0_weigh 36 = .ok (.getfield 31, 3) := by decide +kernel
theorem dX0_weigh_39 : decode cX0_weigh 39 = .ok (.iload_n 1, 1) := by decide +kernel
theorem dX0_weigh_40 : decode cX0_weigh 40 = .ok (.iload_n 2, 1) := by decide +kernel
theorem dX0_weigh_41 : decode cX0_weigh 41 = .ok (.invokevirtual 112, 3) := by decide +kernel
theorem dX0_weigh_44 : decode cX0_weigh 44 = .ok (.isub, 1) := by decide +kernel
theorem dX0_weigh_45 : decode cX0_weigh 45 = .ok (.istore 4, 2) := by decide +kernel
theorem dX0_weigh_47 : decode cX0_weigh 47 = .ok (.iload 4, 2) := by decide +kernel
theorem dX0_weigh_49 : decode cX0_weigh 49 = .ok (.aload_n 0, 1) := by decide +kernel
theorem dX0_weigh_50 : decode cX0_weigh 50 = .ok (.getfield 81, 3) := by decide +kernel
theorem dX0_weigh_53 : decode cX0_weigh 53 = .ok (.if_icmp .le 19, 3) := by decide +kernel
theorem dX0_weigh_56 : decode cX0_weigh 56 = .ok (.aload_n 0, 1) := by decide +kernel
theorem dX0_weigh_57 : decode cX0_weigh 57 = .ok (.iload 4, 2) := by decide +kernel
theorem dX0_weigh_59 : decode cX0_weigh 59 = .ok (.putfield 81, 3) := by decide +kernel
theorem dX0_weigh_62 : decode cX0_weigh 62 = .ok (.aload_n 0, 1) := by decide +kernel
theorem dX0_weigh_63 : decode cX0_weigh 63 = .ok (.iload_n 1, 1) := by decide +kernel
theorem dX0_weigh_64 : decode cX0_weigh 64 = .ok (.putfield 94, 3) := by decide +kernel
theorem dX0_weigh_67 : decode cX0_weigh 67 = .ok (.aload_n 0, 1) := by decide +kernel
theorem dX0_weigh_68 : decode cX0_weigh 68 = .ok (.iload_n 2, 1) := by decide +kernel
theorem dX0_weigh_69 : decode cX0_weigh 69 = .ok (.putfield 97, 3) := by decide +kernel
theorem dX0_weigh_72 : decode cX0_weigh 72 = .ok (.return_, 1) := by decide +kernel
theorem dX0_canJoin_0 : decode cX0_canJoin 0 = .ok (.iload_n 2, 1) := by decide +kernel
theorem dX0_canJoin_1 : decode cX0_canJoin 1 = .ok (.ifCond .le 32, 3) := by decide +kernel
theorem dX0_canJoin_4 : decode cX0_canJoin 4 = .ok (.aload_n 0, 1) := by decide +kernel
theorem dX0_canJoin_5 : decode cX0_canJoin 5 = .ok (.getfield 31, 3) := by decide +kernel
theorem dX0_canJoin_8 : decode cX0_canJoin 8 = .ok (.iload_n 2, 1) := by decide +kernel
theorem dX0_canJoin_9 : decode cX0_canJoin 9 = .ok (.invokevirtual 115, 3) := by decide +kernel
theorem dX0_canJoin_12 : decode cX0_canJoin 12 = .ok (.ifCond .eq 21, 3) := by decide +kernel
theorem dX0_canJoin_15 : decode cX0_canJoin 15 = .ok (.aload_n 0, 1) := by decide +kernel
theorem dX0_canJoin_16 : decode cX0_canJoin 16 = .ok (.getfield 9, 3) := by decide +kernel
theorem dX0_canJoin_19 : decode cX0_canJoin 19 = .ok (.iload_n 1, 1) := by decide +kernel
theorem dX0_canJoin_20 : decode cX0_canJoin 20 = .ok (.baload, 1) := by decide +kernel
theorem dX0_canJoin_21 : decode cX0_canJoin 21 = .ok (.ifCond .eq 12, 3) := by decide +kernel
theorem dX0_canJoin_24 : decode cX0_canJoin 24 = .ok (.aload_n 0, 1) := by decide +kernel
theorem dX0_canJoin_25 : decode cX0_canJoin 25 = .ok (.getfield 9, 3) := by decide +kernel
theorem dX0_canJoin_28 : decode cX0_canJoin 28 = .ok (.iload_n 2, 1) := by decide +kernel
theorem dX0_canJoin_29 : decode cX0_canJoin 29 = .ok (.baload, 1) := by decide +kernel
theorem dX0_canJoin_30 : decode cX0_canJoin 30 = .ok (.ifCond .ne 5, 3) := by decide +kernel
theorem dX0_canJoin_33 : decode cX0_canJoin 33 = .ok (.iconst 0, 1) := by decide +kernel
theorem dX0_canJoin_34 : decode cX0_canJoin 34 = .ok (.ireturn, 1) := by decide +kernel
theorem dX0_canJoin_35 : decode cX0_canJoin 35 = .ok (.aload_n 0, 1) := by decide +kernel
theorem dX0_canJoin_36 : decode cX0_canJoin 36 = .ok (.getfield 15, 3) := by decide +kernel
theorem dX0_canJoin_39 : decode cX0_canJoin 39 = .ok (.iload_n 1, 1) := by decide +kernel
theorem dX0_canJoin_40 : decode cX0_canJoin 40 = .ok (.iaload, 1) := by decide +kernel
theorem dX0_canJoin_41 : decode cX0_canJoin 41 = .ok (.iconst (-1), 1) := by decide +kernel
theorem dX0_canJoin_42 : decode cX0_canJoin 42 = .ok (.if_icmp .ne 27, 3) := by decide +kernel
theorem dX0_canJoin_45 : decode cX0_canJoin 45 = .ok (.aload_n 0, 1) := by decide +kernel
theorem dX0_canJoin_46 : decode cX0_canJoin 46 = .ok (.getfield 19, 3) := by decide +kernel
theorem dX0_canJoin_49 : decode cX0_canJoin 49 = .ok (.iload_n 2, 1) := by decide +kernel
theorem dX0_canJoin_50 : decode cX0_canJoin 50 = .ok (.iaload, 1) := by decide +kernel
theorem dX0_canJoin_51 : decode cX0_canJoin 51 = .ok (.iload_n 2, 1) := by decide +kernel
theorem dX0_canJoin_52 : decode cX0_canJoin 52 = .ok (.if_icmp .ne 17, 3) := by decide +kernel
theorem dX0_canJoin_55 : decode cX0_canJoin 55 = .ok (.aload_n 0, 1) := by decide +kernel
theorem dX0_canJoin_56 : decode cX0_canJoin 56 = .ok (.getfield 19, 3) := by decide +kernel
theorem dX0_canJoin_59 : decode cX0_canJoin 59 = .ok (.iload_n 1, 1) := by decide +kernel
theorem dX0_canJoin_60 : decode cX0_canJoin 60 = .ok (.iaload, 1) := by decide +kernel
theorem dX0_canJoin_61 : decode cX0_canJoin 61 = .ok (.iload_n 2, 1) := by decide +kernel
theorem dX0_canJoin_62 : decode cX0_canJoin 62 = .ok (.if_icmp .eq 7, 3) := by decide +kernel
theorem dX0_canJoin_65 : decode cX0_canJoin 65 = .ok (.iconst 1, 1) := by decide +kernel
theorem dX0_canJoin_66 : decode cX0_canJoin 66 = .ok (.goto 4, 3) := by decide +kernel
theorem dX0_canJoin_69 : decode cX0_canJoin 69 = .ok (.iconst 0, 1) := by decide +kernel
theorem dX0_canJoin_70 : decode cX0_canJoin 70 = .ok (.ireturn, 1) := by decide +kernel
theorem dX0_append_0 : decode cX0_append 0 = .ok (.aload_n 0, 1) := by decide +kernel
theorem dX0_append_1 : decode cX0_append 1 = .ok (.getfield 15, 3) := by decide +kernel
theorem dX0_append_4 : decode cX0_append 4 = .ok (.iload_n 1, 1) := by decide +kernel
theorem dX0_append_5 : decode cX0_append 5 = .ok (.iload_n 2, 1) := by decide +kernel
theorem dX0_append_6 : decode cX0_append 6 = .ok (.iastore, 1) := by decide +kernel
theorem dX0_append_7 : decode cX0_append 7 = .ok (.iconst 0, 1) := by decide +kernel
theorem dX0_append_8 : decode cX0_append 8 = .ok (.istore_n 3, 1) := by decide +kernel
theorem dX0_append_9 : decode cX0_append 9 = .ok (.iload_n 3, 1) := by decide +kernel
theorem dX0_append_10 : decode cX0_append 10 = .ok (.aload_n 0, 1) := by decide +kernel
theorem dX0_append_11 : decode cX0_append 11 = .ok (.getfield 31, 3) := by decide +kernel
theorem dX0_append_14 : decode cX0_append 14 = .ok (.getfield 43, 3) := by decide +kernel
theorem dX0_append_17 : decode cX0_append 17 = .ok (.if_icmp .ge 31, 3) := by decide +kernel
theorem dX0_append_20 : decode cX0_append 20 = .ok (.aload_n 0, 1) := by decide +kernel
theorem dX0_append_21 : decode cX0_append 21 = .ok (.getfield 19, 3) := by decide +kernel
theorem dX0_append_24 : decode cX0_append 24 = .ok (.iload_n 3, 1) := by decide +kernel
theorem dX0_append_25 : decode cX0_append 25 = .ok (.iaload, 1) := by decide +kernel
theorem dX0_append_26 : decode cX0_append 26 = .ok (.iload_n 2, 1) := by decide +kernel
theorem dX0_append_27 : decode cX0_append 27 = .ok (.if_icmp .ne 15, 3) := by decide +kernel
theorem dX0_append_30 : decode cX0_append 30 = .ok (.aload_n 0, 1) := by decide +kernel
theorem dX0_append_31 : decode cX0_append 31 = .ok (.getfield 19, 3) := by decide +kernel
theorem dX0_append_34 : decode cX0_append 34 = .ok (.iload_n 3, 1) := by decide +kernel
theorem dX0_append_35 : decode cX0_append 35 = .ok (.aload_n 0, 1) := by decide +kernel
theorem dX0_append_36 : decode cX0_append 36 = .ok (.getfield 19, 3) := by decide +kernel
theorem dX0_append_39 : decode cX0_append 39 = .ok (.iload_n 1, 1) := by decide +kernel
theorem dX0_append_40 : decode cX0_append 40 = .ok (.iaload, 1) := by decide +kernel
theorem dX0_append_41 : decode cX0_append 41 = .ok (.iastore, 1) := by decide +kernel
theorem dX0_append_42 : decode cX0_append 42 = .ok (.iinc 3 1, 3) := by decide +kernel
theorem dX0_append_45 : decode cX0_append 45 = .ok (.goto (-36), 3) := by decide +kernel
theorem dX0_append_48 : decode cX0_append 48 = .ok (.return_, 1) := by decide +kernel
theorem dX0_placeChains_0 : decode cX0_placeChains 0 = .ok (.iconst 0, 1) := by decide +kernel
theorem dX0_placeChains_1 : decode cX0_placeChains 1 = .ok (.istore_n 1, 1) := by decide +kernel
theorem dX0_placeChains_2 : decode cX0_placeChains 2 = .ok (.iload_n 1, 1) := by decide +kernel
theorem dX0_placeChains_3 : decode cX0_placeChains 3 = .ok (.aload_n 0, 1) := by decide +kernel
theorem dX0_placeChains_4 : decode cX0_placeChains 4 = .ok (.getfield 31, 3) := by decide +kernel
theorem dX0_placeChains_7 : decode cX0_placeChains 7 = .ok (.getfield 43, 3) := by decide +kernel
theorem dX0_placeChains_10 : decode cX0_placeChains 10 = .ok (.if_icmp .ge 23, 3) := by decide +kernel
theorem dX0_placeChains_13 : decode cX0_placeChains 13 = .ok (.aload_n 0, 1) := by decide +kernel
theorem dX0_placeChains_14 : decode cX0_placeChains 14 = .ok (.getfield 22, 3) := by decide +kernel
theorem dX0_placeChains_17 : decode cX0_placeChains 17 = .ok (.iload_n 1, 1) := by decide +kernel
theorem dX0_placeChains_18 : decode cX0_placeChains 18 = .ok (.iconst 0, 1) := by decide +kernel
theorem dX0_placeChains_19 : decode cX0_placeChains 19 = .ok (.iastore, 1) := by decide +kernel
theorem dX0_placeChains_20 : decode cX0_placeChains 20 = .ok (.aload_n 0, 1) := by decide +kernel
theorem dX0_placeChains_21 : decode cX0_placeChains 21 = .ok (.getfield 25, 3) := by decide +kernel
theorem dX0_placeChains_24 : decode cX0_placeChains 24 = .ok (.iload_n 1, 1) := by decide +kernel
theorem dX0_placeChains_25 : decode cX0_placeChains 25 = .ok (.iconst 0, 1) := by decide +kernel
theorem dX0_placeChains_26 : decode cX0_placeChains 26 = .ok (.bastore, 1) := by decide +kernel
theorem dX0_placeChains_27 : decode cX0_placeChains 27 = .ok (.iinc 1 1, 3) := by decide +kernel
theorem dX0_placeChains_30 : decode cX0_placeChains 30 = .ok (.goto (-28), 3) := by decide +kernel
theorem dX0_placeChains_33 : decode cX0_placeChains 33 = .ok (.aload_n 0, 1) := by decide +kernel
theorem dX0_placeChains_34 : decode cX0_placeChains 34 = .ok (.iconst 0, 1) := by decide +kernel
theorem dX0_placeChains_35 : decode cX0_placeChains 35 = .ok (.iconst 0, 1) := by decide +kernel
theorem dX0_placeChains_36 : decode cX0_placeChains 36 = .ok (.invokevirtual 119, 3) := by decide +kernel
theorem dX0_placeChains_39 : decode cX0_placeChains 39 = .ok (.istore_n 1, 1) := by decide +kernel
theorem dX0_placeChains_40 : decode cX0_placeChains 40 = .ok (.iconst 0, 1) := by decide +kernel
theorem dX0_placeChains_41 : decode cX0_placeChains 41 = .ok (.istore_n 2, 1) := by decide +kernel
theorem dX0_placeChains_42 : decode cX0_placeChains 42 = .ok (.iload_n 2, 1) := by decide +kernel
theorem dX0_placeChains_43 : decode cX0_placeChains 43 = .ok (.bipush 16, 2) := by decide +kernel
theorem dX0_placeChains_45 : decode cX0_placeChains 45 = .ok (.if_icmp .ge 27, 3) := by decide +kernel
theorem dX0_placeChains_48 : decode cX0_placeChains 48 = .ok (.iload_n 1, 1) := by decide +kernel
theorem dX0_placeChains_49 : decode cX0_placeChains 49 = .ok (.aload_n 0, 1) := by decide +kernel
theorem dX0_placeChains_50 : decode cX0_placeChains 50 = .ok (.getfield 39, 3) := by decide +kernel
theorem dX0_placeChains_53 : decode cX0_placeChains 53 = .ok (.if_icmp .ge 19, 3) := by decide +kernel
theorem dX0_placeChains_56 : decode cX0_placeChains 56 = .ok (.aload_n 0, 1) := by decide +kernel
theorem dX0_placeChains_57 : decode cX0_placeChains 57 = .ok (.aload_n 0, 1) := by decide +kernel
theorem dX0_placeChains_58 : decode cX0_placeChains 58 = .ok (.invokevirtual 122, 3) := by decide +kernel
theorem dX0_placeChains_61 : decode cX0_placeChains 61 = .ok (.iload_n 1, 1) := by decide +kernel
theorem dX0_placeChains_62 : decode cX0_placeChains 62 = .ok (.invokevirtual 119, 3) := by decide +kernel
theorem dX0_placeChains_65 : decode cX0_placeChains 65 = .ok (.istore_n 1, 1) := by decide +kernel
theorem dX0_placeChains_66 : decode cX0_placeChains 66 = .ok (.iinc 2 1, 3) := by decide +kernel
theorem dX0_placeChains_69 : decode cX0_placeChains 69 = .ok (.goto (-27), 3) := by decide +kernel
theorem dX0_placeChains_72 : decode cX0_placeChains 72 = .ok (.return_, 1) := by decide +kernel
theorem dX0_placeChain_0 : decode cX0_placeChain 0 = .ok (.iload_n 2, 1) := by decide +kernel
theorem dX0_placeChain_1 : decode cX0_placeChain 1 = .ok (.istore_n 3, 1) := by decide +kernel
theorem dX0_placeChain_2 : decode cX0_placeChain 2 = .ok (.iload_n 1, 1) := by decide +kernel
theorem dX0_placeChain_3 : decode cX0_placeChain 3 = .ok (.istore 4, 2) := by decide +kernel
theorem dX0_placeChain_5 : decode cX0_placeChain 5 = .ok (.aload_n 0, 1) := by decide +kernel
theorem dX0_placeChain_6 : decode cX0_placeChain 6 = .ok (.getfield 31, 3) := by decide +kernel
theorem dX0_placeChain_9 : decode cX0_placeChain 9 = .ok (.iload 4, 2) := by decide +kernel
theorem dX0_placeChain_11 : decode cX0_placeChain 11 = .ok (.invokevirtual 115, 3) := by decide +kernel
theorem dX0_placeChain_14 : decode cX0_placeChain 14 = .ok (.ifCond .eq 93, 3) := by decide +kernel
theorem dX0_placeChain_17 : decode cX0_placeChain 17 = .ok (.iload_n 3, 1) := by decide +kernel
theorem dX0_placeChain_18 : decode cX0_placeChain 18 = .ok (.aload_n 0, 1) := by decide +kernel
theorem dX0_placeChain_19 : decode cX0_placeChain 19 = .ok (.getfield 39, 3) := by decide +kernel
theorem dX0_placeChain_22 : decode cX0_placeChain 22 = .ok (.if_icmp .ge 85, 3) := by decide +kernel
theorem dX0_placeChain_25 : decode cX0_placeChain 25 = .ok (.aload_n 0, 1) := by decide +kernel
theorem dX0_placeChain_26 : decode cX0_placeChain 26 = .ok (.getfield 35, 3) := by decide +kernel
theorem dX0_placeChain_29 : decode cX0_placeChain 29 = .ok (.getfield 74, 3) := by decide +kernel
theorem dX0_placeChain_32 : decode cX0_placeChain 32 = .ok (.iload_n 3, 1) := by decide +kernel
theorem dX0_placeChain_33 : decode cX0_placeChain 33 = .ok (.iload 4, 2) := by decide +kernel
theorem dX0_placeChain_35 : decode cX0_placeChain 35 = .ok (.iastore, 1) := by decide +kernel
theorem dX0_placeChain_36 : decode cX0_placeChain 36 = .ok (.aload_n 0, 1) := by decide +kernel
theorem dX0_placeChain_37 : decode cX0_placeChain 37 = .ok (.getfield 25, 3) := by decide +kernel
theorem dX0_placeChain_40 : decode cX0_placeChain 40 = .ok (.iload 4, 2) := by decide +kernel
theorem dX0_placeChain_42 : decode cX0_placeChain 42 = .ok (.iconst 1, 1) := by decide +kernel
theorem dX0_placeChain_43 : decode cX0_placeChain 43 = .ok (.bastore, 1) := by decide +kernel
theorem dX0_placeChain_44 : decode cX0_placeChain 44 = .ok (.aload_n 0, 1) := by decide +kernel
theorem dX0_placeChain_45 : decode cX0_placeChain 45 = .ok (.aload_n 0, 1) := by decide +kernel
theorem dX0_placeChain_46 : decode cX0_placeChain 46 = .ok (.getfield 31, 3) := by decide +kernel
theorem dX0_placeChain_49 : decode cX0_placeChain 49 = .ok (.getfield 84, 3) := by decide +kernel
theorem dX0_placeChain_52 : decode cX0_placeChain 52 = .ok (.iload 4, 2) := by decide +kernel
theorem dX0_placeChain_54 : decode cX0_placeChain 54 = .ok (.iaload, 1) := by decide +kernel
theorem dX0_placeChain_55 : decode cX0_placeChain 55 = .ok (.aload_n 0, 1) := by decide +kernel
theorem dX0_placeChain_56 : decode cX0_placeChain 56 = .ok (.getfield 31, 3) := by decide +kernel
theorem dX0_placeChain_59 : decode cX0_placeChain 59 = .ok (.getfield 126, 3) := by decide +kernel
theorem dX0_placeChain_62 : decode cX0_placeChain 62 = .ok (.iload 4, 2) := by decide +kernel
theorem dX0_placeChain_64 : decode cX0_placeChain 64 = .ok (.iaload, 1) := by decide +kernel
theorem dX0_placeChain_65 : decode cX0_placeChain 65 = .ok (.invokevirtual 129, 3) := by decide +kernel
theorem dX0_placeChain_68 : decode cX0_placeChain 68 = .ok (.aload_n 0, 1) := by decide +kernel
theorem dX0_placeChain_69 : decode cX0_placeChain 69 = .ok (.aload_n 0, 1) := by decide +kernel
theorem dX0_placeChain_70 : decode cX0_placeChain 70 = .ok (.getfield 31, 3) := by decide +kernel
theorem dX0_placeChain_73 : decode cX0_placeChain 73 = .ok (.getfield 87, 3) := by decide +kernel
theorem dX0_placeChain_76 : decode cX0_placeChain 76 = .ok (.iload 4, 2) := by decide +kernel
theorem dX0_placeChain_78 : decode cX0_placeChain 78 = .ok (.iaload, 1) := by decide +kernel
theorem dX0_placeChain_79 : decode cX0_placeChain 79 = .ok (.aload_n 0, 1) := by decide +kernel
theorem dX0_placeChain_80 : decode cX0_placeChain 80 = .ok (.getfield 31, 3) := by decide +kernel
theorem dX0_placeChain_83 : decode cX0_placeChain 83 = .ok (.getfield 132, 3) := by decide +kernel
theorem dX0_placeChain_86 : decode cX0_placeChain 86 = .ok (.iload 4, 2) := by decide +kernel
theorem dX0_placeChain_88 : decode cX0_placeChain 88 = .ok (.iaload, 1) := by decide +kernel
theorem dX0_placeChain_89 : decode cX0_placeChain 89 = .ok (.invokevirtual 129, 3) := by decide +kernel
theorem dX0_placeChain_92 : decode cX0_placeChain 92 = .ok (.aload_n 0, 1) := by decide +kernel
theorem dX0_placeChain_93 : decode cX0_placeChain 93 = .ok (.getfield 15, 3) := by decide +kernel
theorem dX0_placeChain_96 : decode cX0_placeChain 96 = .ok (.iload 4, 2) := by decide +kernel
theorem dX0_placeChain_98 : decode cX0_placeChain 98 = .ok (.iaload, 1) := by decide +kernel
theorem dX0_placeChain_99 : decode cX0_placeChain 99 = .ok (.istore 4, 2) := by decide +kernel
theorem dX0_placeChain_101 : decode cX0_placeChain 101 = .ok (.iinc 3 1, 3) := by decide +kernel
theorem dX0_placeChain_104 : decode cX0_placeChain 104 = .ok (.goto (-99), 3) := by decide +kernel
theorem dX0_placeChain_107 : decode cX0_placeChain 107 = .ok (.iload_n 3, 1) := by decide +kernel
theorem dX0_placeChain_108 : decode cX0_placeChain 108 = .ok (.ireturn, 1) := by decide +kernel
theorem dX0_pullFor_0 : decode cX0_pullFor 0 = .ok (.aload_n 0, 1) := by decide +kernel
theorem dX0_pullFor_1 : decode cX0_pullFor 1 = .ok (.getfield 31, 3) := by decide +kernel
theorem dX0_pullFor_4 : decode cX0_pullFor 4 = .ok (.iload_n 1, 1) := by decide +kernel
theorem dX0_pullFor_5 : decode cX0_pullFor 5 = .ok (.invokevirtual 115, 3) := by decide +kernel
theorem dX0_pullFor_8 : decode cX0_pullFor 8 = .ok (.ifCond .eq 18, 3) := by decide +kernel
theorem dX0_pullFor_11 : decode cX0_pullFor 11 = .ok (.aload_n 0, 1) := by decide +kernel
theorem dX0_pullFor_12 : decode cX0_pullFor 12 = .ok (.getfield 22, 3) := by decide +kernel
theorem dX0_pullFor_15 : decode cX0_pullFor 15 = .ok (.aload_n 0, 1) := by decide +kernel
theorem dX0_pullFor_16 : decode cX0_pullFor 16 = .ok (.getfield 19, 3) := by decide +kernel
theorem dX0_pullFor_19 : decode cX0_pullFor 19 = .ok (.iload_n 1, 1) := by decide +kernel
theorem dX0_pullFor_20 : decode cX0_pullFor 20 = .ok (.iaload, 1) := by decide +kernel
theorem dX0_pullFor_21 : decode cX0_pullFor 21 = .ok (.dup2, 1) := by decide +kernel
theorem dX0_pullFor_22 : decode cX0_pullFor 22 = .ok (.iaload, 1) := by decide +kernel
theorem dX0_pullFor_23 : decode cX0_pullFor 23 = .ok (.iload_n 2, 1) := by decide +kernel
theorem dX0_pullFor_24 : decode cX0_pullFor 24 = .ok (.iadd, 1) := by decide +kernel
theorem dX0_pullFor_25 : decode cX0_pullFor 25 = .ok (.iastore, 1) := by decide +kernel
theorem dX0_pullFor_26 : decode cX0_pullFor 26 = .ok (.return_, 1) := by decide +kernel
theorem dX0_strongestChain_0 : decode cX0_strongestChain 0 = .ok (.iconst (-1), 1) := by decide +kernel
theorem dX0_strongestChain_1 : decode cX0_strongestChain 1 = .ok (.istore_n 1, 1) := by decide +kernel
theorem dX0_strongestChain_2 : decode cX0_strongestChain 2 = .ok (.iconst 0, 1) := by decide +kernel
theorem dX0_strongestChain_3 : decode cX0_strongestChain 3 = .ok (.istore_n 2, 1) := by decide +kernel
theorem dX0_strongestChain_4 : decode cX0_strongestChain 4 = .ok (.iload_n 2, 1) := by decide +kernel
theorem dX0_strongestChain_5 : decode cX0_strongestChain 5 = .ok (.aload_n 0, 1) := by decide +kernel
theorem dX0_strongestChain_6 : decode cX0_strongestChain 6 = .ok (.getfield 31, 3) := by decide +kernel
theorem dX0_strongestChain_9 : decode cX0_strongestChain 9 = .ok (.getfield 43, 3) := by decide +kernel
theorem dX0_strongestChain_12 : decode cX0_strongestChain 12 = .ok (.if_icmp .ge 69, 3) := by decide +kernel
theorem dX0_strongestChain_15 : decode cX0_strongestChain 15 = .ok (.aload_n 0, 1) := by decide +kernel
theorem dX0_strongestChain_16 : decode cX0_strongestChain 16 = .ok (.getfield 9, 3) := by decide +kernel
theorem dX0_strongestChain_19 : decode cX0_strongestChain 19 = .ok (.iload_n 2, 1) := by decide +kernel
theorem dX0_strongestChain_20 : decode cX0_strongestChain 20 = .ok (.baload, 1) := by decide +kernel
theorem dX0_strongestChain_21 : decode cX0_strongestChain 21 = .ok (.ifCond .eq 26, 3) := by decide +kernel
theorem dX0_strongestChain_24 : decode cX0_strongestChain 24 = .ok (.aload_n 0, 1) := by decide +kernel
theorem dX0_strongestChain_25 : decode cX0_strongestChain 25 = .ok (.getfield 19, 3) := by decide +kernel
theorem dX0_strongestChain_28 : decode cX0_strongestChain 28 = .ok (.iload_n 2, 1) := by decide +kernel
theorem dX0_strongestChain_29 : decode cX0_strongestChain 29 = .ok (.iaload, 1) := by decide +kernel
theorem dX0_strongestChain_30 : decode cX0_strongestChain 30 = .ok (.iload_n 2, 1) := by decide +kernel
theorem dX0_strongestChain_31 : decode cX0_strongestChain 31 = .ok (.if_icmp .ne 16, 3) := by decide +kernel
theorem dX0_strongestChain_34 : decode cX0_strongestChain 34 = .ok (.aload_n 0, 1) := by decide +kernel
theorem dX0_strongestChain_35 : decode cX0_strongestChain 35 = .ok (.getfield 25, 3) := by decide +kernel
theorem dX0_strongestChain_38 : decode cX0_strongestChain 38 = .ok (.iload_n 2, 1) := by decide +kernel
theorem dX0_strongestChain_39 : decode cX0_strongestChain 39 = .ok (.baload, 1) := by decide +kernel
theorem dX0_strongestChain_40 : decode cX0_strongestChain 40 = .ok (.ifCond .ne 7, 3) := by decide +kernel
theorem dX0_strongestChain_43 : decode cX0_strongestChain 43 = .ok (.iconst 1, 1) := by decide +kernel
theorem dX0_strongestChain_44 : decode cX0_strongestChain 44 = .ok (.goto 4, 3) := by decide +kernel
theorem dX0_strongestChain_47 : decode cX0_strongestChain 47 = .ok (.iconst 0, 1) := by decide +kernel
theorem dX0_strongestChain_48 : decode cX0_strongestChain 48 = .ok (.istore_n 3, 1) := by decide +kernel
theorem dX0_strongestChain_49 : decode cX0_strongestChain 49 = .ok (.iload_n 3, 1) := by decide +kernel
theorem dX0_strongestChain_50 : decode cX0_strongestChain 50 = .ok (.ifCond .eq 25, 3) := by decide +kernel
theorem dX0_strongestChain_53 : decode cX0_strongestChain 53 = .ok (.iload_n 1, 1) := by decide +kernel
theorem dX0_strongestChain_54 : decode cX0_strongestChain 54 = .ok (.iconst (-1), 1) := by decide +kernel
theorem dX0_strongestChain_55 : decode cX0_strongestChain 55 = .ok (.if_icmp .eq 18, 3) := by decide +kernel
theorem dX0_strongestChain_58 : decode cX0_strongestChain 58 = .ok (.aload_n 0, 1) := by decide +kernel
theorem dX0_strongestChain_59 : decode cX0_strongestChain 59 = .ok (.getfield 22, 3) := by decide +kernel
theorem dX0_strongestChain_62 : decode cX0_strongestChain 62 = .ok (.iload_n 2, 1) := by decide +kernel
theorem dX0_strongestChain_63 : decode cX0_strongestChain 63 = .ok (.iaload, 1) := by decide +kernel
theorem dX0_strongestChain_64 : decode cX0_strongestChain 64 = .ok (.aload_n 0, 1) := by decide +kernel
theorem dX0_strongestChain_65 : decode cX0_strongestChain 65 = .ok (.getfield 22, 3) := by decide +kernel
theorem dX0_strongestChain_68 : decode cX0_strongestChain 68 = .ok (.iload_n 1, 1) := by decide +kernel
theorem dX0_strongestChain_69 : decode cX0_strongestChain 69 = .ok (.iaload, 1) := by decide +kernel
theorem dX0_strongestChain_70 : decode cX0_strongestChain 70 = .ok (.if_icmp .le 5, 3) := by decide +kernel
theorem dX0_strongestChain_73 : decode cX0_strongestChain 73 = .ok (.iload_n 2, 1) := by decide +kernel
theorem dX0_strongestChain_74 : decode cX0_strongestChain 74 = .ok (.istore_n 1, 1) := by decide +kernel
theorem dX0_strongestChain_75 : decode cX0_strongestChain 75 = .ok (.iinc 2 1, 3) := by decide +kernel
theorem dX0_strongestChain_78 : decode cX0_strongestChain 78 = .ok (.goto (-74), 3) := by decide +kernel
theorem dX0_strongestChain_81 : decode cX0_strongestChain 81 = .ok (.iload_n 1, 1) := by decide +kernel
theorem dX0_strongestChain_82 : decode cX0_strongestChain 82 = .ok (.ireturn, 1) := by decide +kernel
theorem dX0_search_0 : decode cX0_search 0 = .ok (.iload_n 1, 1) := by decide +kernel
theorem dX0_search_1 : decode cX0_search 1 = .ok (.iconst 1, 1) := by decide +kernel
theorem dX0_search_2 : decode cX0_search 2 = .ok (.if_icmp .lt 17, 3) := by decide +kernel
theorem dX0_search_5 : decode cX0_search 5 = .ok (.iload_n 1, 1) := by decide +kernel
theorem dX0_search_6 : decode cX0_search 6 = .ok (.bipush 7, 2) := by decide +kernel
theorem dX0_search_8 : decode cX0_search 8 = .ok (.if_icmp .gt 11, 3) := by decide +kernel
theorem dX0_search_11 : decode cX0_search 11 = .ok (.iload_n 3, 1) := by decide +kernel
theorem dX0_search_12 : decode cX0_search 12 = .ok (.aload_n 0, 1) := by decide +kernel
theorem dX0_search_13 : decode cX0_search 13 = .ok (.getfield 52, 3) := by decide +kernel
theorem dX0_search_16 : decode cX0_search 16 = .ok (.if_icmp .lt 4, 3) := by decide +kernel
theorem dX0_search_19 : decode cX0_search 19 = .ok (.return_, 1) := by decide +kernel
theorem dX0_search_20 : decode cX0_search 20 = .ok (.aload_n 0, 1) := by decide +kernel
theorem dX0_search_21 : decode cX0_search 21 = .ok (.getfield 28, 3) := by decide +kernel
theorem dX0_search_24 : decode cX0_search 24 = .ok (.iload_n 1, 1) := by decide +kernel
theorem dX0_search_25 : decode cX0_search 25 = .ok (.iconst 1, 1) := by decide +kernel
theorem dX0_search_26 : decode cX0_search 26 = .ok (.isub, 1) := by decide +kernel
theorem dX0_search_27 : decode cX0_search 27 = .ok (.iaload, 1) := by decide +kernel
theorem dX0_search_28 : decode cX0_search 28 = .ok (.istore 4, 2) := by decide +kernel
theorem dX0_search_30 : decode cX0_search 30 = .ok (.iload_n 1, 1) := by decide +kernel
theorem dX0_search_31 : decode cX0_search 31 = .ok (.aload_n 0, 1) := by decide +kernel
theorem dX0_search_32 : decode cX0_search 32 = .ok (.getfield 39, 3) := by decide +kernel
theorem dX0_search_35 : decode cX0_search 35 = .ok (.if_icmp .ge 9, 3) := by decide +kernel
theorem dX0_search_38 : decode cX0_search 38 = .ok (.iload_n 1, 1) := by decide +kernel
theorem dX0_search_39 : decode cX0_search 39 = .ok (.bipush 7, 2) := by decide +kernel
theorem dX0_search_41 : decode cX0_search 41 = .ok (.if_icmp .ne 21, 3) := by decide +kernel
theorem dX0_search_44 : decode cX0_search 44 = .ok (.aload_n 0, 1) := by decide +kernel
theorem dX0_search_45 : decode cX0_search 45 = .ok (.iload_n 1, 1) := by decide +kernel
theorem dX0_search_46 : decode cX0_search 46 = .ok (.iload_n 3, 1) := by decide +kernel
theorem dX0_search_47 : decode cX0_search 47 = .ok (.aload_n 0, 1) := by decide +kernel
theorem dX0_search_48 : decode cX0_search 48 = .ok (.getfield 31, 3) := by decide +kernel
theorem dX0_search_51 : decode cX0_search 51 = .ok (.iload 4, 2) := by decide +kernel
theorem dX0_search_53 : decode cX0_search 53 = .ok (.iconst (-1), 1) := by decide +kernel
theorem dX0_search_54 : decode cX0_search 54 = .ok (.invokevirtual 112, 3) := by decide +kernel
theorem dX0_search_57 : decode cX0_search 57 = .ok (.iadd, 1) := by decide +kernel
theorem dX0_search_58 : decode cX0_search 58 = .ok (.invokevirtual 135, 3) := by decide +kernel
theorem dX0_search_61 : decode cX0_search 61 = .ok (.return_, 1) := by decide +kernel
theorem dX0_search_62 : decode cX0_search 62 = .ok (.iconst 1, 1) := by decide +kernel
theorem dX0_search_63 : decode cX0_search 63 = .ok (.istore 5, 2) := by decide +kernel
theorem dX0_search_65 : decode cX0_search 65 = .ok (.iload 5, 2) := by decide +kernel
theorem dX0_search_67 : decode cX0_search 67 = .ok (.aload_n 0, 1) := by decide +kernel
theorem dX0_search_68 : decode cX0_search 68 = .ok (.getfield 31, 3) := by decide +kernel
theorem dX0_search_71 : decode cX0_search 71 = .ok (.getfield 43, 3) := by decide +kernel
theorem dX0_search_74 : decode cX0_search 74 = .ok (.if_icmp .ge 62, 3) := by decide +kernel
theorem dX0_search_77 : decode cX0_search 77 = .ok (.aload_n 0, 1) := by decide +kernel
theorem dX0_search_78 : decode cX0_search 78 = .ok (.getfield 9, 3) := by decide +kernel
theorem dX0_search_81 : decode cX0_search 81 = .ok (.iload 5, 2) := by decide +kernel
theorem dX0_search_83 : decode cX0_search 83 = .ok (.baload, 1) := by decide +kernel
theorem dX0_search_84 : decode cX0_search 84 = .ok (.ifCond .eq 46, 3) := by decide +kernel
theorem dX0_search_87 : decode cX0_search 87 = .ok (.iload_n 2, 1) := by decide +kernel
theorem dX0_search_88 : decode cX0_search 88 = .ok (.iload 5, 2) := by decide +kernel
theorem dX0_search_90 : decode cX0_search 90 = .ok (.ishr, 1) := by decide +kernel
theorem dX0_search_91 : decode cX0_search 91 = .ok (.iconst 1, 1) := by decide +kernel
theorem dX0_search_92 : decode cX0_search 92 = .ok (.iand, 1) := by decide +kernel
theorem dX0_search_93 : decode cX0_search 93 = .ok (.ifCond .ne 37, 3) := by decide +kernel
theorem dX0_search_96 : decode cX0_search 96 = .ok (.aload_n 0, 1) := by decide +kernel
theorem dX0_search_97 : decode cX0_search 97 = .ok (.getfield 28, 3) := by decide +kernel
theorem dX0_search_100 : decode cX0_search 100 = .ok (.iload_n 1, 1) := by decide +kernel
theorem dX0_search_101 : decode cX0_search 101 = .ok (.iload 5, 2) := by decide +kernel
theorem dX0_search_103 : decode cX0_search 103 = .ok (.iastore, 1) := by decide +kernel
theorem dX0_search_104 : decode cX0_search 104 = .ok (.aload_n 0, 1) := by decide +kernel
theorem dX0_search_105 : decode cX0_search 105 = .ok (.iload_n 1, 1) := by decide +kernel
theorem dX0_search_106 : decode cX0_search 106 = .ok (.iconst 1, 1) := by decide +kernel
theorem dX0_search_107 : decode cX0_search 107 = .ok (.iadd, 1) := by decide +kernel
theorem dX0_search_108 : decode cX0_search 108 = .ok (.iload_n 2, 1) := by decide +kernel
theorem dX0_search_109 : decode cX0_search 109 = .ok (.iconst 1, 1) := by decide +kernel
theorem dX0_search_110 : decode cX0_search 110 = .ok (.iload 5, 2) := by decide +kernel
theorem dX0_search_112 : decode cX0_search 112 = .ok (.ishl, 1) := by decide +kernel
theorem dX0_search_113 : decode cX0_search 113 = .ok (.ior, 1) := by decide +kernel
theorem dX0_search_114 : decode cX0_search 114 = .ok (.iload_n 3, 1) := by decide +kernel
theorem dX0_search_115 : decode cX0_search 115 = .ok (.aload_n 0, 1) := by decide +kernel
theorem dX0_search_116 : decode cX0_search 116 = .ok (.getfield 31, 3) := by decide +kernel
theorem dX0_search_119 : decode cX0_search 119 = .ok (.iload 4, 2) := by decide +kernel
theorem dX0_search_121 : decode cX0_search 121 = .ok (.iload 5, 2) := by decide +kernel
theorem dX0_search_123 : decode cX0_search 123 = .ok (.invokevirtual 112, 3) := by decide +kernel
theorem dX0_search_126 : decode cX0_search 126 = .ok (.iadd, 1) := by decide +kernel
theorem dX0_search_127 : decode cX0_search 127 = .ok (.invokevirtual 55, 3) := by decide +kernel
theorem dX0_search_130 : decode cX0_search 130 = .ok (.iinc 5 1, 3) := by decide +kernel
theorem dX0_search_133 : decode cX0_search 133 = .ok (.goto (-68), 3) := by decide +kernel
theorem dX0_search_136 : decode cX0_search 136 = .ok (.return_, 1) := by decide +kernel
theorem dX0_keepTrial_0 : decode cX0_keepTrial 0 = .ok (.iload_n 2, 1) := by decide +kernel
theorem dX0_keepTrial_1 : decode cX0_keepTrial 1 = .ok (.aload_n 0, 1) := by decide +kernel
theorem dX0_keepTrial_2 : decode cX0_keepTrial 2 = .ok (.getfield 52, 3) := by decide +kernel
theorem dX0_keepTrial_5 : decode cX0_keepTrial 5 = .ok (.if_icmp .ge 36, 3) := by decide +kernel
theorem dX0_keepTrial_8 : decode cX0_keepTrial 8 = .ok (.aload_n 0, 1) := by decide +kernel
theorem dX0_keepTrial_9 : decode cX0_keepTrial 9 = .ok (.iload_n 2, 1) := by decide +kernel
theorem dX0_keepTrial_10 : decode cX0_keepTrial 10 = .ok (.putfield 52, 3) := by decide +kernel
theorem dX0_keepTrial_13 : decode cX0_keepTrial 13 = .ok (.iconst 0, 1) := by decide +kernel
theorem dX0_keepTrial_14 : decode cX0_keepTrial 14 = .ok (.istore_n 3, 1) := by decide +kernel
theorem dX0_keepTrial_15 : decode cX0_keepTrial 15 = .ok (.iload_n 3, 1) := by decide +kernel
theorem dX0_keepTrial_16 : decode cX0_keepTrial 16 = .ok (.iload_n 1, 1) := by decide +kernel
theorem dX0_keepTrial_17 : decode cX0_keepTrial 17 = .ok (.if_icmp .ge 24, 3) := by decide +kernel
theorem dX0_keepTrial_20 : decode cX0_keepTrial 20 = .ok (.aload_n 0, 1) := by decide +kernel
theorem dX0_keepTrial_21 : decode cX0_keepTrial 21 = .ok (.getfield 35, 3) := by decide +kernel
theorem dX0_keepTrial_24 : decode cX0_keepTrial 24 = .ok (.getfield 74, 3) := by decide +kernel
theorem dX0_keepTrial_27 : decode cX0_keepTrial 27 = .ok (.iload_n 3, 1) := by decide +kernel
theorem dX0_keepTrial_28 : decode cX0_keepTrial 28 = .ok (.aload_n 0, 1) := by decide +kernel
theorem dX0_keepTrial_29 : decode cX0_keepTrial 29 = .ok (.getfield 28, 3) := by decide +kernel
theorem dX0_keepTrial_32 : decode cX0_keepTrial 32 = .ok (.iload_n 3, 1) := by decide +kernel
theorem dX0_keepTrial_33 : decode cX0_keepTrial 33 = .ok (.iaload, 1) := by decide +kernel
theorem dX0_keepTrial_34 : decode cX0_keepTrial 34 = .ok (.iastore, 1) := by decide +kernel
theorem dX0_keepTrial_35 : decode cX0_keepTrial 35 = .ok (.iinc 3 1, 3) := by decide +kernel
theorem dX0_keepTrial_38 : decode cX0_keepTrial 38 = .ok (.goto (-23), 3) := by decide +kernel
theorem dX0_keepTrial_41 : decode cX0_keepTrial 41 = .ok (.return_, 1) := by decide +kernel
theorem dX1_init_0 : decode cX1_init 0 = .ok (.aload_n 0, 1) := by decide +kernel
theorem dX1_init_1 : decode cX1_init 1 = .ok (.invokespecial 3, 3) := by decide +kernel
theorem dX1_init_4 : decode cX1_init 4 = .ok (.aload_n 0, 1) := by decide +kernel
theorem dX1_init_5 : decode cX1_init 5 = .ok (.sipush 160, 3) := by decide +kernel
theorem dX1_init_8 : decode cX1_init 8 = .ok (.newarray .int, 2) := by decide +kernel
theorem dX1_init_10 : decode cX1_init 10 = .ok (.putfield 9, 3) := by decide +kernel
theorem dX1_init_13 : decode cX1_init 13 = .ok (.aload_n 0, 1) := by decide +kernel
theorem dX1_init_14 : decode cX1_init 14 = .ok (.bipush 10, 2) := by decide +kernel
theorem dX1_init_16 : decode cX1_init 16 = .ok (.newarray .int, 2) := by decide +kernel
theorem dX1_init_18 : decode cX1_init 18 = .ok (.putfield 15, 3) := by decide +kernel
theorem dX1_init_21 : decode cX1_init 21 = .ok (.aload_n 0, 1) := by decide +kernel
theorem dX1_init_22 : decode cX1_init 22 = .ok (.bipush 10, 2) := by decide +kernel
theorem dX1_init_24 : decode cX1_init 24 = .ok (.newarray .int, 2) := by decide +kernel
theorem dX1_init_26 : decode cX1_init 26 = .ok (.putfield 18, 3) := by decide +kernel
theorem dX1_init_29 : decode cX1_init 29 = .ok (.return_, 1) := by decide +kernel
theorem dX1_forget_0 : decode cX1_forget 0 = .ok (.aload_n 0, 1) := by decide +kernel
theorem dX1_forget_1 : decode cX1_forget 1 = .ok (.iconst 0, 1) := by decide +kernel
theorem dX1_forget_2 : decode cX1_forget 2 = .ok (.putfield 21, 3) := by decide +kernel
theorem dX1_forget_5 : decode cX1_forget 5 = .ok (.return_, 1) := by decide +kernel
theorem dX1_remember_0 : decode cX1_remember 0 = .ok (.iconst 0, 1) := by decide +kernel
theorem dX1_remember_1 : decode cX1_remember 1 = .ok (.istore_n 2, 1) := by decide +kernel
theorem dX1_remember_2 : decode cX1_remember 2 = .ok (.iload_n 2, 1) := by decide +kernel
theorem dX1_remember_3 : decode cX1_remember 3 = .ok (.bipush 16, 2) := by decide +kernel
theorem dX1_remember_5 : decode cX1_remember 5 = .ok (.if_icmp .ge 29, 3) := by decide +kernel
theorem dX1_remember_8 : decode cX1_remember 8 = .ok (.aload_n 0, 1) := by decide +kernel
theorem dX1_remember_9 : decode cX1_remember 9 = .ok (.getfield 9, 3) := by decide +kernel
theorem dX1_remember_12 : decode cX1_remember 12 = .ok (.aload_n 0, 1) := by decide +kernel
theorem dX1_remember_13 : decode cX1_remember 13 = .ok (.getfield 25, 3) := by decide +kernel
theorem dX1_remember_16 : decode cX1_remember 16 = .ok (.bipush 16, 2) := by decide +kernel
theorem dX1_remember_18 : decode cX1_remember 18 = .ok (.imul, 1) := by decide +kernel
theorem dX1_remember_19 : decode cX1_remember 19 = .ok (.iload_n 2, 1) := by decide +kernel
theorem dX1_remember_20 : decode cX1_remember 20 = .ok (.iadd, 1) := by decide +kernel
theorem dX1_remember_21 : decode cX1_remember 21 = .ok (.aload_n 1, 1) := by decide +kernel
theorem dX1_remember_22 : decode cX1_remember 22 = .ok (.getfield 28, 3) := by decide +kernel
theorem dX1_remember_25 : decode cX1_remember 25 = .ok (.iload_n 2, 1) := by decide +kernel
theorem dX1_remember_26 : decode cX1_remember 26 = .ok (.iaload, 1) := by decide +kernel
theorem dX1_remember_27 : decode cX1_remember 27 = .ok (.iastore, 1) := by decide +kernel
theorem dX1_remember_28 : decode cX1_remember 28 = .ok (.iinc 2 1, 3) := by decide +kernel
theorem dX1_remember_31 : decode cX1_remember 31 = .ok (.goto (-29), 3) := by decide +kernel
theorem dX1_remember_34 : decode cX1_remember 34 = .ok (.aload_n 0, 1) := by decide +kernel
theorem dX1_remember_35 : decode cX1_remember 35 = .ok (.getfield 15, 3) := by decide +kernel
theorem dX1_remember_38 : decode cX1_remember 38 = .ok (.aload_n 0, 1) := by decide +kernel
theorem dX1_remember_39 : decode cX1_remember 39 = .ok (.getfield 25, 3) := by decide +kernel
theorem dX1_remember_42 : decode cX1_remember 42 = .ok (.aload_n 1, 1) := by decide +kernel
theorem dX1_remember_43 : decode cX1_remember 43 = .ok (.getfield 33, 3) := by decide +kernel
theorem dX1_remember_46 : decode cX1_remember 46 = .ok (.iastore, 1) := by decide +kernel
theorem dX1_remember_47 : decode cX1_remember 47 = .ok (.aload_n 0, 1) := by decide +kernel
theorem dX1_remember_48 : decode cX1_remember 48 = .ok (.getfield 18, 3) := by decide +kernel
theorem dX1_remember_51 : decode cX1_remember 51 = .ok (.aload_n 0, 1) := by decide +kernel
theorem dX1_remember_52 : decode cX1_remember 52 = .ok (.getfield 25, 3) := by decide +kernel
theorem dX1_remember_55 : decode cX1_remember 55 = .ok (.aload_n 1, 1) := by decide +kernel
theorem dX1_remember_56 : decode cX1_remember 56 = .ok (.getfield 36, 3) := by decide +kernel
theorem dX1_remember_59 : decode cX1_remember 59 = .ok (.iastore, 1) := by decide +kernel
theorem dX1_remember_60 : decode cX1_remember 60 = .ok (.aload_n 0, 1) := by decide +kernel
theorem dX1_remember_61 : decode cX1_remember 61 = .ok (.aload_n 0, 1) := by decide +kernel
theorem dX1_remember_62 : decode cX1_remember 62 = .ok (.getfield 25, 3) := by decide +kernel
theorem dX1_remember_65 : decode cX1_remember 65 = .ok (.iconst 1, 1) := by decide +kernel
theorem dX1_remember_66 : decode cX1_remember 66 = .ok (.iadd, 1) := by decide +kernel
theorem dX1_remember_67 : decode cX1_remember 67 = .ok (.bipush 10, 2) := by decide +kernel
theorem dX1_remember_69 : decode cX1_remember 69 = .ok (.if_icmp .ne 7, 3) := by decide +kernel
theorem dX1_remember_72 : decode cX1_remember 72 = .ok (.iconst 0, 1) := by decide +kernel
theorem dX1_remember_73 : decode cX1_remember 73 = .ok (.goto 9, 3) := by decide +kernel
theorem dX1_remember_76 : decode cX1_remember 76 = .ok (.aload_n 0, 1) := by decide +kernel
theorem dX1_remember_77 : decode cX1_remember 77 = .ok (.getfield 25, 3) := by decide +kernel
theorem dX1_remember_80 : decode cX1_remember 80 = .ok (.iconst 1, 1) := by decide +kernel
theorem dX1_remember_81 : decode cX1_remember 81 = .ok (.iadd, 1) := by decide +kernel
theorem dX1_remember_82 : decode cX1_remember 82 = .ok (.putfield 25, 3) := by decide +kernel
theorem dX1_remember_85 : decode cX1_remember 85 = .ok (.aload_n 0, 1) := by decide +kernel
theorem dX1_remember_86 : decode cX1_remember 86 = .ok (.aload_n 0, 1) := by decide +kernel
theorem dX1_remember_87 : decode cX1_remember 87 = .ok (.getfield 21, 3) := by decide +kernel
theorem dX1_remember_90 : decode cX1_remember 90 = .ok (.iconst 1, 1) := by decide +kernel
theorem dX1_remember_91 : decode cX1_remember 91 = .ok (.iadd, 1) := by decide +kernel
theorem dX1_remember_92 : decode cX1_remember 92 = .ok (.bipush 10, 2) := by decide +kernel
theorem dX1_remember_94 : decode cX1_remember 94 = .ok (.invokestatic 39, 3) := by decide +kernel
theorem dX1_remember_97 : decode cX1_remember 97 = .ok (.putfield 21, 3) := by decide +kernel
theorem dX1_remember_100 : decode cX1_remember 100 = .ok (.return_, 1) := by decide +kernel
theorem dX1_restore_0 : decode cX1_restore 0 = .ok (.aload_n 0, 1) := by decide +kernel
theorem dX1_restore_1 : decode cX1_restore 1 = .ok (.getfield 21, 3) := by decide +kernel
theorem dX1_restore_4 : decode cX1_restore 4 = .ok (.ifCond .ne 5, 3) := by decide +kernel
theorem dX1_restore_7 : decode cX1_restore 7 = .ok (.iconst 0, 1) := by decide +kernel
theorem dX1_restore_8 : decode cX1_restore 8 = .ok (.ireturn, 1) := by decide +kernel
theorem dX1_restore_9 : decode cX1_restore 9 = .ok (.aload_n 0, 1) := by decide +kernel
theorem dX1_restore_10 : decode cX1_restore 10 = .ok (.aload_n 0, 1) := by decide +kernel
theorem dX1_restore_11 : decode cX1_restore 11 = .ok (.getfield 25, 3) := by decide +kernel
theorem dX1_restore_14 : decode cX1_restore 14 = .ok (.ifCond .ne 8, 3) := by decide +kernel
theorem dX1_restore_17 : decode cX1_restore 17 = .ok (.bipush 9, 2) := by decide +kernel
theorem dX1_restore_19 : decode cX1_restore 19 = .ok (.goto 9, 3) := by decide +kernel
theorem dX1_restore_22 : decode cX1_restore 22 = .ok (.aload_n 0, 1) := by decide +kernel
theorem dX1_restore_23 : decode cX1_restore 23 = .ok (.getfield 25, 3) := by decide +kernel
theorem dX1_restore_26 : decode cX1_restore 26 = .ok (.iconst 1, 1) := by decide +kernel
theorem dX1_restore_27 : decode cX1_restore 27 = .ok (.isub, 1) := by decide +kernel
theorem dX1_restore_28 : decode cX1_restore 28 = .ok (.putfield 25, 3) := by decide +kernel
theorem dX1_restore_31 : decode cX1_restore 31 = .ok (.aload_n 0, 1) := by decide +kernel
theorem dX1_restore_32 : decode cX1_restore 32 = .ok (.dup, 1) := by decide +kernel
theorem dX1_restore_33 : decode cX1_restore 33 = .ok (.getfield 21, 3) := by decide +kernel
theorem dX1_restore_36 : decode cX1_restore 36 = .ok (.iconst 1, 1) := by decide +kernel
theorem dX1_restore_37 : decode cX1_restore 37 = .ok (.isub, 1) := by decide +kernel
theorem dX1_restore_38 : decode cX1_restore 38 = .ok (.putfield 21, 3) := by decide +kernel
theorem dX1_restore_41 : decode cX1_restore 41 = .ok (.iconst 0, 1) := by decide +kernel
theorem dX1_restore_42 : decode cX1_restore 42 = .ok (.istore_n 2, 1) := by decide +kernel
theorem dX1_restore_43 : decode cX1_restore 43 = .ok (.iload_n 2, 1) := by decide +kernel
theorem dX1_restore_44 : decode cX1_restore 44 = .ok (.bipush 16, 2) := by decide +kernel
theorem dX1_restore_46 : decode cX1_restore 46 = .ok (.if_icmp .ge 29, 3) := by decide +kernel
theorem dX1_restore_49 : decode cX1_restore 49 = .ok (.aload_n 1, 1) := by decide +kernel
theorem dX1_restore_50 : decode cX1_restore 50 = .ok (.getfield 28, 3) := by decide +kernel
theorem dX1_restore_53 : decode cX1_restore 53 = .ok (.iload_n 2, 1) := by decide +kernel
theorem dX1_restore_54 : decode cX1_restore 54 = .ok (.aload_n 0, 1) := by decide +kernel
theorem dX1_restore_55 : decode cX1_restore 55 = .ok (.getfield 9, 3) := by decide +kernel
theorem dX1_restore_58 : decode cX1_restore 58 = .ok (.aload_n 0, 1) := by decide +kernel
theorem dX1_restore_59 : decode cX1_restore 59 = .ok (.getfield 25, 3) := by decide +kernel
theorem dX1_restore_62 : decode cX1_restore 62 = .ok (.bipush 16, 2) := by decide +kernel
theorem dX1_restore_64 : decode cX1_restore 64 = .ok (.imul, 1) := by decide +kernel
theorem dX1_restore_65 : decode cX1_restore 65 = .ok (.iload_n 2, 1) := by decide +kernel
theorem dX1_restore_66 : decode cX1_restore 66 = .ok (.iadd, 1) := by decide +kernel
theorem dX1_restore_67 : decode cX1_restore 67 = .ok (.iaload, 1) := by decide +kernel
theorem dX1_restore_68 : decode cX1_restore 68 = .ok (.iastore, 1) := by decide +kernel
theorem dX1_restore_69 : decode cX1_restore 69 = .ok (.iinc 2 1, 3) := by decide +kernel
theorem dX1_restore_72 : decode cX1_restore 72 = .ok (.goto (-29), 3) := by decide +kernel
theorem dX1_restore_75 : decode cX1_restore 75 = .ok (.aload_n 1, 1) := by decide +kernel
theorem dX1_restore_76 : decode cX1_restore 76 = .ok (.aload_n 0, 1) := by decide +kernel
theorem dX1_restore_77 : decode cX1_restore 77 = .ok (.getfield 15, 3) := by decide +kernel
theorem dX1_restore_80 : decode cX1_restore 80 = .ok (.aload_n 0, 1) := by decide +kernel
theorem dX1_restore_81 : decode cX1_restore 81 = .ok (.getfield 25, 3) := by decide +kernel
theorem dX1_restore_84 : decode cX1_restore 84 = .ok (.iaload, 1) := by decide +kernel
theorem dX1_restore_85 : decode cX1_restore 85 = .ok (.putfield 33, 3) := by decide +kernel
theorem dX1_restore_88 : decode cX1_restore 88 = .ok (.aload_n 1, 1) := by decide +kernel
theorem dX1_restore_89 : decode cX1_restore 89 = .ok (.aload_n 0, 1) := by decide +kernel
theorem dX1_restore_90 : decode cX1_restore 90 = .ok (.getfield 18, 3) := by decide +kernel
theorem dX1_restore_93 : decode cX1_restore 93 = .ok (.aload_n 0, 1) := by decide +kernel
theorem dX1_restore_94 : decode cX1_restore 94 = .ok (.getfield 25, 3) := by decide +kernel
theorem dX1_restore_97 : decode cX1_restore 97 = .ok (.iaload, 1) := by decide +kernel
theorem dX1_restore_98 : decode cX1_restore 98 = .ok (.putfield 36, 3) := by decide +kernel
theorem dX1_restore_101 : decode cX1_restore 101 = .ok (.iconst 1, 1) := by decide +kernel
theorem dX1_restore_102 : decode cX1_restore 102 = .ok (.ireturn, 1) := by decide +kernel
theorem dX2_init_0 : decode cX2_init 0 = .ok (.aload_n 0, 1) := by decide +kernel
theorem dX2_init_1 : decode cX2_init 1 = .ok (.invokespecial 3, 3) := by decide +kernel
theorem dX2_init_4 : decode cX2_init 4 = .ok (.aload_n 0, 1) := by decide +kernel
theorem dX2_init_5 : decode cX2_init 5 = .ok (.bipush 60, 2) := by decide +kernel
theorem dX2_init_7 : decode cX2_init 7 = .ok (.newarray .char, 2) := by decide +kernel
theorem dX2_init_9 : decode cX2_init 9 = .ok (.putfield 9, 3) := by decide +kernel
theorem dX2_init_12 : decode cX2_init 12 = .ok (.return_, 1) := by decide +kernel
theorem dX2_append_0 : decode cX2_append 0 = .ok (.aload_n 0, 1) := by decide +kernel
theorem dX2_append_1 : decode cX2_append 1 = .ok (.getfield 15, 3) := by decide +kernel
theorem dX2_append_4 : decode cX2_append 4 = .ok (.bipush 60, 2) := by decide +kernel
theorem dX2_append_6 : decode cX2_append 6 = .ok (.if_icmp .lt 5, 3) := by decide +kernel
theorem dX2_append_9 : decode cX2_append 9 = .ok (.iconst 0, 1) := by decide +kernel
theorem dX2_append_10 : decode cX2_append 10 = .ok (.ireturn, 1) := by decide +kernel
theorem dX2_append_11 : decode cX2_append 11 = .ok (.aload_n 0, 1) := by decide +kernel
theorem dX2_append_12 : decode cX2_append 12 = .ok (.getfield 9, 3) := by decide +kernel
theorem dX2_append_15 : decode cX2_append 15 = .ok (.aload_n 0, 1) := by decide +kernel
theorem dX2_append_16 : decode cX2_append 16 = .ok (.getfield 15, 3) := by decide +kernel
theorem dX2_append_19 : decode cX2_append 19 = .ok (.iload_n 1, 1) := by decide +kernel
theorem dX2_append_20 : decode cX2_append 20 = .ok (.castore, 1) := by decide +kernel
theorem dX2_append_21 : decode cX2_append 21 = .ok (.aload_n 0, 1) := by decide +kernel
theorem dX2_append_22 : decode cX2_append 22 = .ok (.dup, 1) := by decide +kernel
theorem dX2_append_23 : decode cX2_append 23 = .ok (.getfield 15, 3) := by decide +kernel
theorem dX2_append_26 : decode cX2_append 26 = .ok (.iconst 1, 1) := by decide +kernel
theorem dX2_append_27 : decode cX2_append 27 = .ok (.iadd, 1) := by decide +kernel
theorem dX2_append_28 : decode cX2_append 28 = .ok (.putfield 15, 3) := by decide +kernel
theorem dX2_append_31 : decode cX2_append 31 = .ok (.iconst 1, 1) := by decide +kernel
theorem dX2_append_32 : decode cX2_append 32 = .ok (.ireturn, 1) := by decide +kernel
theorem dX2_parse_0 : decode cX2_parse 0 = .ok (.aload_n 0, 1) := by decide +kernel
theorem dX2_parse_1 : decode cX2_parse 1 = .ok (.iconst 0, 1) := by decide +kernel
theorem dX2_parse_2 : decode cX2_parse 2 = .ok (.putfield 19, 3) := by decide +kernel
theorem dX2_parse_5 : decode cX2_parse 5 = .ok (.aload_n 0, 1) := by decide +kernel
theorem dX2_parse_6 : decode cX2_parse 6 = .ok (.iconst (-1), 1) := by decide +kernel
theorem dX2_parse_7 : decode cX2_parse 7 = .ok (.putfield 22, 3) := by decide +kernel
theorem dX2_parse_10 : decode cX2_parse 10 = .ok (.aload_n 0, 1) := by decide +kernel
theorem dX2_parse_11 : decode cX2_parse 11 = .ok (.iconst (-1), 1) := by decide +kernel
theorem dX2_parse_12 : decode cX2_parse 12 = .ok (.putfield 25, 3) := by decide +kernel
theorem dX2_parse_15 : decode cX2_parse 15 = .ok (.aload_n 0, 1) := by decide +kernel
theorem dX2_parse_16 : decode cX2_parse 16 = .ok (.iconst 0, 1) := by decide +kernel
theorem dX2_parse_17 : decode cX2_parse 17 = .ok (.putfield 28, 3) := by decide +kernel
theorem dX2_parse_20 : decode cX2_parse 20 = .ok (.aload_n 0, 1) := by decide +kernel
theorem dX2_parse_21 : decode cX2_parse 21 = .ok (.iconst 2, 1) := by decide +kernel
theorem dX2_parse_22 : decode cX2_parse 22 = .ok (.invokevirtual 31, 3) := by decide +kernel
theorem dX2_parse_25 : decode cX2_parse 25 = .ok (.ifCond .ne 5, 3) := by decide +kernel
theorem dX2_parse_28 : decode cX2_parse 28 = .ok (.iconst 0, 1) := by decide +kernel
theorem dX2_parse_29 : decode cX2_parse 29 = .ok (.ireturn, 1) := by decide +kernel
theorem dX2_parse_30 : decode cX2_parse 30 = .ok (.aload_n 0, 1) := by decide +kernel
theorem dX2_parse_31 : decode cX2_parse 31 = .ok (.aload_n 0, 1) := by decide +kernel
theorem dX2_parse_32 : decode cX2_parse 32 = .ok (.getfield 35, 3) := by decide +kernel
theorem dX2_parse_35 : decode cX2_parse 35 = .ok (.putfield 38, 3) := by decide +kernel
theorem dX2_parse_38 : decode cX2_parse 38 = .ok (.aload_n 0, 1) := by decide +kernel
theorem dX2_parse_39 : decode cX2_parse 39 = .ok (.ldc 41, 2) := by decide +kernel
theorem dX2_parse_41 : decode cX2_parse 41 = .ok (.invokevirtual 43, 3) := by decide +kernel
theorem dX2_parse_44 : decode cX2_parse 44 = .ok (.ifCond .eq 25, 3) := by decide +kernel
theorem dX2_parse_47 : decode cX2_parse 47 = .ok (.aload_n 0, 1) := by decide +kernel
theorem dX2_parse_48 : decode cX2_parse 48 = .ok (.invokevirtual 47, 3) := by decide +kernel
theorem dX2_parse_51 : decode cX2_parse 51 = .ok (.ifCond .eq 18, 3) := by decide +kernel
theorem dX2_parse_54 : decode cX2_parse 54 = .ok (.aload_n 0, 1) := by decide +kernel
theorem dX2_parse_55 : decode cX2_parse 55 = .ok (.getfield 19, 3) := by decide +kernel
theorem dX2_parse_58 : decode cX2_parse 58 = .ok (.aload_n 0, 1) := by decide +kernel
theorem dX2_parse_59 : decode cX2_parse 59 = .ok (.getfield 15, 3) := by decide +kernel
theorem dX2_parse_62 : decode cX2_parse 62 = .ok (.if_icmp .ne 7, 3) := by decide +kernel
theorem dX2_parse_65 : decode cX2_parse 65 = .ok (.iconst 1, 1) := by decide +kernel
theorem dX2_parse_66 : decode cX2_parse 66 = .ok (.goto 4, 3) := by decide +kernel
theorem dX2_parse_69 : decode cX2_parse 69 = .ok (.iconst 0, 1) := by decide +kernel
theorem dX2_parse_70 : decode cX2_parse 70 = .ok (.ireturn, 1) := by decide +kernel
theorem dX2_takeEnd_0 : decode cX2_takeEnd 0 = .ok (.aload_n 0, 1) := by decide +kernel
theorem dX2_takeEnd_1 : decode cX2_takeEnd 1 = .ok (.bipush 115, 2) := by decide +kernel
theorem dX2_takeEnd_3 : decode cX2_takeEnd 3 = .ok (.invokevirtual 51, 3) := by decide +kernel
theorem dX2_takeEnd_6 : decode cX2_takeEnd 6 = .ok (.ifCond .eq 15, 3) := by decide +kernel
theorem dX2_takeEnd_9 : decode cX2_takeEnd 9 = .ok (.aload_n 0, 1) := by decide +kernel
theorem dX2_takeEnd_10 : decode cX2_takeEnd 10 = .ok (.iconst 2, 1) := by decide +kernel
theorem dX2_takeEnd_11 : decode cX2_takeEnd 11 = .ok (.putfield 55, 3) := by decide +kernel
theorem dX2_takeEnd_14 : decode cX2_takeEnd 14 = .ok (.aload_n 0, 1) := by decide +kernel
theorem dX2_takeEnd_15 : decode cX2_takeEnd 15 = .ok (.ldc 58, 2) := by decide +kernel
theorem dX2_takeEnd_17 : decode cX2_takeEnd 17 = .ok (.invokevirtual 43, 3) := by decide +kernel
theorem dX2_takeEnd_20 : decode cX2_takeEnd 20 = .ok (.ireturn, 1) := by decide +kernel
theorem dX2_takeEnd_21 : decode cX2_takeEnd 21 = .ok (.aload_n 0, 1) := by decide +kernel
theorem dX2_takeEnd_22 : decode cX2_takeEnd 22 = .ok (.bipush 103, 2) := by decide +kernel
theorem dX2_takeEnd_24 : decode cX2_takeEnd 24 = .ok (.invokevirtual 51, 3) := by decide +kernel
theorem dX2_takeEnd_27 : decode cX2_takeEnd 27 = .ok (.ifCond .eq 30, 3) := by decide +kernel
theorem dX2_takeEnd_30 : decode cX2_takeEnd 30 = .ok (.aload_n 0, 1) := by decide +kernel
theorem dX2_takeEnd_31 : decode cX2_takeEnd 31 = .ok (.iconst 0, 1) := by decide +kernel
theorem dX2_takeEnd_32 : decode cX2_takeEnd 32 = .ok (.putfield 55, 3) := by decide +kernel
theorem dX2_takeEnd_35 : decode cX2_takeEnd 35 = .ok (.aload_n 0, 1) := by decide +kernel
theorem dX2_takeEnd_36 : decode cX2_takeEnd 36 = .ok (.ldc 60, 2) := by decide +kernel
theorem dX2_takeEnd_38 : decode cX2_takeEnd 38 = .ok (.invokevirtual 43, 3) := by decide +kernel
theorem dX2_takeEnd_41 : decode cX2_takeEnd 41 = .ok (.ifCond .eq 14, 3) := by decide +kernel
theorem dX2_takeEnd_44 : decode cX2_takeEnd 44 = .ok (.aload_n 0, 1) := by decide +kernel
theorem dX2_takeEnd_45 : decode cX2_takeEnd 45 = .ok (.invokevirtual 62, 3) := by decide +kernel
theorem dX2_takeEnd_48 : decode cX2_takeEnd 48 = .ok (.ifCond .eq 7, 3) := by decide +kernel
theorem dX2_takeEnd_51 : decode cX2_takeEnd 51 = .ok (.iconst 1, 1) := by decide +kernel
theorem dX2_takeEnd_52 : decode cX2_takeEnd 52 = .ok (.goto 4, 3) := by decide +kernel
theorem dX2_takeEnd_55 : decode cX2_takeEnd 55 = .ok (.iconst 0, 1) := by decide +kernel
theorem dX2_takeEnd_56 : decode cX2_takeEnd 56 = .ok (.ireturn, 1) := by decide +kernel
theorem dX2_takeEnd_57 : decode cX2_takeEnd 57 = .ok (.aload_n 0, 1) := by decide +kernel
theorem dX2_takeEnd_58 : decode cX2_takeEnd 58 = .ok (.iconst 1, 1) := by decide +kernel
theorem dX2_takeEnd_59 : decode cX2_takeEnd 59 = .ok (.putfield 55, 3) := by decide +kernel
theorem dX2_takeEnd_62 : decode cX2_takeEnd 62 = .ok (.aload_n 0, 1) := by decide +kernel
theorem dX2_takeEnd_63 : decode cX2_takeEnd 63 = .ok (.ldc 65, 2) := by decide +kernel
theorem dX2_takeEnd_65 : decode cX2_takeEnd 65 = .ok (.invokevirtual 43, 3) := by decide +kernel
theorem dX2_takeEnd_68 : decode cX2_takeEnd 68 = .ok (.ifCond .eq 46, 3) := by decide +kernel
theorem dX2_takeEnd_71 : decode cX2_takeEnd 71 = .ok (.aload_n 0, 1) := by decide +kernel
theorem dX2_takeEnd_72 : decode cX2_takeEnd 72 = .ok (.invokevirtual 62, 3) := by decide +kernel
theorem dX2_takeEnd_75 : decode cX2_takeEnd 75 = .ok (.ifCond .eq 39, 3) := by decide +kernel
theorem dX2_takeEnd_78 : decode cX2_takeEnd 78 = .ok (.aload_n 0, 1) := by decide +kernel
theorem dX2_takeEnd_79 : decode cX2_takeEnd 79 = .ok (.ldc 41, 2) := by decide +kernel
theorem dX2_takeEnd_81 : decode cX2_takeEnd 81 = .ok (.invokevirtual 43, 3) := by decide +kernel
theorem dX2_takeEnd_84 : decode cX2_takeEnd 84 = .ok (.ifCond .eq 30, 3) := by decide +kernel
theorem dX2_takeEnd_87 : decode cX2_takeEnd 87 = .ok (.aload_n 0, 1) := by decide +kernel
theorem dX2_takeEnd_88 : decode cX2_takeEnd 88 = .ok (.invokevirtual 67, 3) := by decide +kernel
theorem dX2_takeEnd_91 : decode cX2_takeEnd 91 = .ok (.ifCond .eq 23, 3) := by decide +kernel
theorem dX2_takeEnd_94 : decode cX2_takeEnd 94 = .ok (.aload_n 0, 1) := by decide +kernel
theorem dX2_takeEnd_95 : decode cX2_takeEnd 95 = .ok (.ldc 41, 2) := by decide +kernel
theorem dX2_takeEnd_97 : decode cX2_takeEnd 97 = .ok (.invokevirtual 43, 3) := by decide +kernel
theorem dX2_takeEnd_100 : decode cX2_takeEnd 100 = .ok (.ifCond .eq 14, 3) := by decide +kernel
theorem dX2_takeEnd_103 : decode cX2_takeEnd 103 = .ok (.aload_n 0, 1) := by decide +kernel
theorem dX2_takeEnd_104 : decode cX2_takeEnd 104 = .ok (.invokevirtual 70, 3) := by decide +kernel
theorem dX2_takeEnd_107 : decode cX2_takeEnd 107 = .ok (.ifCond .eq 7, 3) := by decide +kernel
theorem dX2_takeEnd_110 : decode cX2_takeEnd 110 = .ok (.iconst 1, 1) := by decide +kernel
theorem dX2_takeEnd_111 : decode cX2_takeEnd 111 = .ok (.goto 4, 3) := by decide +kernel
theorem dX2_takeEnd_114 : decode cX2_takeEnd 114 = .ok (.iconst 0, 1) := by decide +kernel
theorem dX2_takeEnd_115 : decode cX2_takeEnd 115 = .ok (.ireturn, 1) := by decide +kernel
theorem dX2_takeFirst_0 : decode cX2_takeFirst 0 = .ok (.aload_n 0, 1) := by decide +kernel
theorem dX2_takeFirst_1 : decode cX2_takeFirst 1 = .ok (.iconst 2, 1) := by decide +kernel
theorem dX2_takeFirst_2 : decode cX2_takeFirst 2 = .ok (.invokevirtual 31, 3) := by decide +kernel
theorem dX2_takeFirst_5 : decode cX2_takeFirst 5 = .ok (.istore_n 1, 1) := by decide +kernel
theorem dX2_takeFirst_6 : decode cX2_takeFirst 6 = .ok (.aload_n 0, 1) := by decide +kernel
theorem dX2_takeFirst_7 : decode cX2_takeFirst 7 = .ok (.aload_n 0, 1) := by decide +kernel
theorem dX2_takeFirst_8 : decode cX2_takeFirst 8 = .ok (.getfield 35, 3) := by decide +kernel
theorem dX2_takeFirst_11 : decode cX2_takeFirst 11 = .ok (.putfield 22, 3) := by decide +kernel
theorem dX2_takeFirst_14 : decode cX2_takeFirst 14 = .ok (.iload_n 1, 1) := by decide +kernel
theorem dX2_takeFirst_15 : decode cX2_takeFirst 15 = .ok (.ireturn, 1) := by decide +kernel
theorem dX2_takeSecond_0 : decode cX2_takeSecond 0 = .ok (.aload_n 0, 1) := by decide +kernel
theorem dX2_takeSecond_1 : decode cX2_takeSecond 1 = .ok (.iconst 2, 1) := by decide +kernel
theorem dX2_takeSecond_2 : decode cX2_takeSecond 2 = .ok (.invokevirtual 31, 3) := by decide +kernel
theorem dX2_takeSecond_5 : decode cX2_takeSecond 5 = .ok (.istore_n 1, 1) := by decide +kernel
theorem dX2_takeSecond_6 : decode cX2_takeSecond 6 = .ok (.aload_n 0, 1) := by decide +kernel
theorem dX2_takeSecond_7 : decode cX2_takeSecond 7 = .ok (.aload_n 0, 1) := by decide +kernel
theorem dX2_takeSecond_8 : decode cX2_takeSecond 8 = .ok (.getfield 35, 3) := by decide +kernel
theorem dX2_takeSecond_11 : decode cX2_takeSecond 11 = .ok (.putfield 25, 3) := by decide +kernel
theorem dX2_takeSecond_14 : decode cX2_takeSecond 14 = .ok (.iload_n 1, 1) := by decide +kernel
theorem dX2_takeSecond_15 : decode cX2_takeSecond 15 = .ok (.ireturn, 1) := by decide +kernel
theorem dX2_takePattern_0 : decode cX2_takePattern 0 = .ok (.aload_n 0, 1) := by decide +kernel
theorem dX2_takePattern_1 : decode cX2_takePattern 1 = .ok (.bipush 45, 2) := by decide +kernel
theorem dX2_takePattern_3 : decode cX2_takePattern 3 = .ok (.invokevirtual 51, 3) := by decide +kernel
theorem dX2_takePattern_6 : decode cX2_takePattern 6 = .ok (.istore_n 1, 1) := by decide +kernel
theorem dX2_takePattern_7 : decode cX2_takePattern 7 = .ok (.iload_n 1, 1) := by decide +kernel
theorem dX2_takePattern_8 : decode cX2_takePattern 8 = .ok (.ifCond .eq 13, 3) := by decide +kernel
theorem dX2_takePattern_11 : decode cX2_takePattern 11 = .ok (.aload_n 0, 1) := by decide +kernel
theorem dX2_takePattern_12 : decode cX2_takePattern 12 = .ok (.dup, 1) := by decide +kernel
theorem dX2_takePattern_13 : decode cX2_takePattern 13 = .ok (.getfield 19, 3) := by decide +kernel
theorem dX2_takePattern_16 : decode cX2_takePattern 16 = .ok (.iconst 1, 1) := by decide +kernel
theorem dX2_takePattern_17 : decode cX2_takePattern 17 = .ok (.iadd, 1) := by decide +kernel
theorem dX2_takePattern_18 : decode cX2_takePattern 18 = .ok (.putfield 19, 3) := by decide +kernel
theorem dX2_takePattern_21 : decode cX2_takePattern 21 = .ok (.aload_n 0, 1) := by decide +kernel
theorem dX2_takePattern_22 : decode cX2_takePattern 22 = .ok (.bipush 6, 2) := by decide +kernel
theorem dX2_takePattern_24 : decode cX2_takePattern 24 = .ok (.invokevirtual 31, 3) := by decide +kernel
theorem dX2_takePattern_27 : decode cX2_takePattern 27 = .ok (.istore_n 2, 1) := by decide +kernel
theorem dX2_takePattern_28 : decode cX2_takePattern 28 = .ok (.aload_n 0, 1) := by decide +kernel
theorem dX2_takePattern_29 : decode cX2_takePattern 29 = .ok (.iload_n 1, 1) := by decide +kernel
theorem dX2_takePattern_30 : decode cX2_takePattern 30 = .ok (.ifCond .eq 11, 3) := by decide +kernel
theorem dX2_takePattern_33 : decode cX2_takePattern 33 = .ok (.aload_n 0, 1) := by decide +kernel
theorem dX2_takePattern_34 : decode cX2_takePattern 34 = .ok (.getfield 35, 3) := by decide +kernel
theorem dX2_takePattern_37 : decode cX2_takePattern 37 = .ok (.ineg, 1) := by decide +kernel
theorem dX2_takePattern_38 : decode cX2_takePattern 38 = .ok (.goto 7, 3) := by decide +kernel
theorem dX2_takePattern_41 : decode cX2_takePattern 41 = .ok (.aload_n 0, 1) := by decide +kernel
theorem dX2_takePattern_42 : decode cX2_takePattern 42 = .ok (.getfield 35, 3) := by decide +kernel
theorem dX2_takePattern_45 : decode cX2_takePattern 45 = .ok (.putfield 28, 3) := by decide +kernel
theorem dX2_takePattern_48 : decode cX2_takePattern 48 = .ok (.iload_n 2, 1) := by decide +kernel
theorem dX2_takePattern_49 : decode cX2_takePattern 49 = .ok (.ireturn, 1) := by decide +kernel
theorem dX2_takeNumber_0 : decode cX2_takeNumber 0 = .ok (.aload_n 0, 1) := by decide +kernel
theorem dX2_takeNumber_1 : decode cX2_takeNumber 1 = .ok (.iconst 0, 1) := by decide +kernel
theorem dX2_takeNumber_2 : decode cX2_takeNumber 2 = .ok (.putfield 35, 3) := by decide +kernel
theorem dX2_takeNumber_5 : decode cX2_takeNumber 5 = .ok (.iconst 0, 1) := by decide +kernel
theorem dX2_takeNumber_6 : decode cX2_takeNumber 6 = .ok (.istore_n 2, 1) := by decide +kernel
theorem dX2_takeNumber_7 : decode cX2_takeNumber 7 = .ok (.iload_n 2, 1) := by decide +kernel
theorem dX2_takeNumber_8 : decode cX2_takeNumber 8 = .ok (.iload_n 1, 1) := by decide +kernel
theorem dX2_takeNumber_9 : decode cX2_takeNumber 9 = .ok (.if_icmp .ge 50, 3) := by decide +kernel
theorem dX2_takeNumber_12 : decode cX2_takeNumber 12 = .ok (.aload_n 0, 1) := by decide +kernel
theorem dX2_takeNumber_13 : decode cX2_takeNumber 13 = .ok (.invokevirtual 73, 3) := by decide +kernel
theorem dX2_takeNumber_16 : decode cX2_takeNumber 16 = .ok (.ifCond .eq 43, 3) := by decide +kernel
theorem dX2_takeNumber_19 : decode cX2_takeNumber 19 = .ok (.aload_n 0, 1) := by decide +kernel
theorem dX2_takeNumber_20 : decode cX2_takeNumber 20 = .ok (.aload_n 0, 1) := by decide +kernel
theorem dX2_takeNumber_21 : decode cX2_takeNumber 21 = .ok (.getfield 35, 3) := by decide +kernel
theorem dX2_takeNumber_24 : decode cX2_takeNumber 24 = .ok (.bipush 10, 2) := by decide +kernel
theorem dX2_takeNumber_26 : decode cX2_takeNumber 26 = .ok (.imul, 1) := by decide +kernel
theorem dX2_takeNumber_27 : decode cX2_takeNumber 27 = .ok (.aload_n 0, 1) := by decide +kernel
theorem dX2_takeNumber_28 : decode cX2_takeNumber 28 = .ok (.getfield 9, 3) := by decide +kernel
theorem dX2_takeNumber_31 : decode cX2_takeNumber 31 = .ok (.aload_n 0, 1) := by decide +kernel
theorem dX2_takeNumber_32 : decode cX2_takeNumber 32 = .ok (.getfield 19, 3) := by decide +kernel
theorem dX2_takeNumber_35 : decode cX2_takeNumber 35 = .ok (.caload, 1) := by decide +kernel
theorem dX2_takeNumber_36 : decode cX2_takeNumber 36 = .ok (.bipush 48, 2) := by decide +kernel
theorem dX2_takeNumber_38 : decode cX2_takeNumber 38 = .ok (.isub, 1) := by decide +kernel
theorem dX2_takeNumber_39 : decode cX2_takeNumber 39 = .ok (.iadd, 1) := by decide +kernel
theorem dX2_takeNumber_40 : decode cX2_takeNumber 40 = .ok (.putfield 35, 3) := by decide +kernel
theorem dX2_takeNumber_43 : decode cX2_takeNumber 43 = .ok (.aload_n 0, 1) := by decide +kernel
theorem dX2_takeNumber_44 : decode cX2_takeNumber 44 = .ok (.dup, 1) := by decide +kernel
theorem dX2_takeNumber_45 : decode cX2_takeNumber 45 = .ok (.getfield 19, 3) := by decide +kernel
theorem dX2_takeNumber_48 : decode cX2_takeNumber 48 = .ok (.iconst 1, 1) := by decide +kernel
theorem dX2_takeNumber_49 : decode cX2_takeNumber 49 = .ok (.iadd, 1) := by decide +kernel
theorem dX2_takeNumber_50 : decode cX2_takeNumber 50 = .ok (.putfield 19, 3) := by decide +kernel
theorem dX2_takeNumber_53 : decode cX2_takeNumber 53 = .ok (.iinc 2 1, 3) := by decide +kernel
theorem dX2_takeNumber_56 : decode cX2_takeNumber 56 = .ok (.goto (-49), 3) := by decide +kernel
theorem dX2_takeNumber_59 : decode cX2_takeNumber 59 = .ok (.iload_n 2, 1) := by decide +kernel
theorem dX2_takeNumber_60 : decode cX2_takeNumber 60 = .ok (.ifCond .le 7, 3) := by decide +kernel
theorem dX2_takeNumber_63 : decode cX2_takeNumber 63 = .ok (.iconst 1, 1) := by decide +kernel
theorem dX2_takeNumber_64 : decode cX2_takeNumber 64 = .ok (.goto 4, 3) := by decide +kernel
theorem dX2_takeNumber_67 : decode cX2_takeNumber 67 = .ok (.iconst 0, 1) := by decide +kernel
theorem dX2_takeNumber_68 : decode cX2_takeNumber 68 = .ok (.ireturn, 1) := by decide +kernel
theorem dX2_takeWord_0 : decode cX2_takeWord 0 = .ok (.iconst 0, 1) := by decide +kernel
theorem dX2_takeWord_1 : decode cX2_takeWord 1 = .ok (.istore_n 2, 1) := by decide +kernel
theorem dX2_takeWord_2 : decode cX2_takeWord 2 = .ok (.iload_n 2, 1) := by decide +kernel
theorem dX2_takeWord_3 : decode cX2_takeWord 3 = .ok (.aload_n 1, 1) := by decide +kernel
theorem dX2_takeWord_4 : decode cX2_takeWord 4 = .ok (.invokevirtual 76, 3) := by decide +kernel
theorem dX2_takeWord_7 : decode cX2_takeWord 7 = .ok (.if_icmp .ge 33, 3) := by decide +kernel
theorem dX2_takeWord_10 : decode cX2_takeWord 10 = .ok (.aload_n 0, 1) := by decide +kernel
theorem dX2_takeWord_11 : decode cX2_takeWord 11 = .ok (.aload_n 1, 1) := by decide +kernel
theorem dX2_takeWord_12 : decode cX2_takeWord 12 = .ok (.iload_n 2, 1) := by decide +kernel
theorem dX2_takeWord_13 : decode cX2_takeWord 13 = .ok (.invokevirtual 81, 3) := by decide +kernel
theorem dX2_takeWord_16 : decode cX2_takeWord 16 = .ok (.invokevirtual 51, 3) := by decide +kernel
theorem dX2_takeWord_19 : decode cX2_takeWord 19 = .ok (.ifCond .ne 5, 3) := by decide +kernel
theorem dX2_takeWord_22 : decode cX2_takeWord 22 = .ok (.iconst 0, 1) := by decide +kernel
theorem dX2_takeWord_23 : decode cX2_takeWord 23 = .ok (.ireturn, 1) := by decide +kernel
theorem dX2_takeWord_24 : decode cX2_takeWord 24 = .ok (.aload_n 0, 1) := by decide +kernel
theorem dX2_takeWord_25 : decode cX2_takeWord 25 = .ok (.dup, 1) := by decide +kernel
theorem dX2_takeWord_26 : decode cX2_takeWord 26 = .ok (.getfield 19, 3) := by decide +kernel
theorem dX2_takeWord_29 : decode cX2_takeWord 29 = .ok (.iconst 1, 1) := by decide +kernel
theorem dX2_takeWord_30 : decode cX2_takeWord 30 = .ok (.iadd, 1) := by decide +kernel
theorem dX2_takeWord_31 : decode cX2_takeWord 31 = .ok (.putfield 19, 3) := by decide +kernel
theorem dX2_takeWord_34 : decode cX2_takeWord 34 = .ok (.iinc 2 1, 3) := by decide +kernel
theorem dX2_takeWord_37 : decode cX2_takeWord 37 = .ok (.goto (-35), 3) := by decide +kernel
theorem dX2_takeWord_40 : decode cX2_takeWord 40 = .ok (.iconst 1, 1) := by decide +kernel
theorem dX2_takeWord_41 : decode cX2_takeWord 41 = .ok (.ireturn, 1) := by decide +kernel
theorem dX2_sees_0 : decode cX2_sees 0 = .ok (.aload_n 0, 1) := by decide +kernel
theorem dX2_sees_1 : decode cX2_sees 1 = .ok (.getfield 19, 3) := by decide +kernel
theorem dX2_sees_4 : decode cX2_sees 4 = .ok (.aload_n 0, 1) := by decide +kernel
theorem dX2_sees_5 : decode cX2_sees 5 = .ok (.getfield 15, 3) := by decide +kernel
theorem dX2_sees_8 : decode cX2_sees 8 = .ok (.if_icmp .ge 20, 3) := by decide +kernel
theorem dX2_sees_11 : decode cX2_sees 11 = .ok (.aload_n 0, 1) := by decide +kernel
theorem dX2_sees_12 : decode cX2_sees 12 = .ok (.getfield 9, 3) := by decide +kernel
theorem dX2_sees_15 : decode cX2_sees 15 = .ok (.aload_n 0, 1) := by decide +kernel
theorem dX2_sees_16 : decode cX2_sees 16 = .ok (.getfield 19, 3) := by decide +kernel
theorem dX2_sees_19 : decode cX2_sees 19 = .ok (.caload, 1) := by decide +kernel
theorem dX2_sees_20 : decode cX2_sees 20 = .ok (.iload_n 1, 1) := by decide +kernel
theorem dX2_sees_21 : decode cX2_sees 21 = .ok (.if_icmp .ne 7, 3) := by decide +kernel
theorem dX2_sees_24 : decode cX2_sees 24 = .ok (.iconst 1, 1) := by decide +kernel
theorem dX2_sees_25 : decode cX2_sees 25 = .ok (.goto 4, 3) := by decide +kernel
theorem dX2_sees_28 : decode cX2_sees 28 = .ok (.iconst 0, 1) := by decide +kernel
theorem dX2_sees_29 : decode cX2_sees 29 = .ok (.ireturn, 1) := by decide +kernel
theorem dX2_seesDigit_0 : decode cX2_seesDigit 0 = .ok (.aload_n 0, 1) := by decide +kernel
theorem dX2_seesDigit_1 : decode cX2_seesDigit 1 = .ok (.getfield 19, 3) := by decide +kernel
theorem dX2_seesDigit_4 : decode cX2_seesDigit 4 = .ok (.aload_n 0, 1) := by decide +kernel
theorem dX2_seesDigit_5 : decode cX2_seesDigit 5 = .ok (.getfield 15, 3) := by decide +kernel
theorem dX2_seesDigit_8 : decode cX2_seesDigit 8 = .ok (.if_icmp .ge 35, 3) := by decide +kernel
theorem dX2_seesDigit_11 : decode cX2_seesDigit 11 = .ok (.aload_n 0, 1) := by decide +kernel
theorem dX2_seesDigit_12 : decode cX2_seesDigit 12 = .ok (.getfield 9, 3) := by decide +kernel
theorem dX2_seesDigit_15 : decode cX2_seesDigit 15 = .ok (.aload_n 0, 1) := by decide +kernel
theorem dX2_seesDigit_16 : decode cX2_seesDigit 16 = .ok (.getfield 19, 3) := by decide +kernel
theorem dX2_seesDigit_19 : decode cX2_seesDigit 19 = .ok (.caload, 1) := by decide +kernel
theorem dX2_seesDigit_20 : decode cX2_seesDigit 20 = .ok (.bipush 48, 2) := by decide +kernel
theorem dX2_seesDigit_22 : decode cX2_seesDigit 22 = .ok (.if_icmp .lt 21, 3) := by decide +kernel
theorem dX2_seesDigit_25 : decode cX2_seesDigit 25 = .ok (.aload_n 0, 1) := by decide +kernel
theorem dX2_seesDigit_26 : decode cX2_seesDigit 26 = .ok (.getfield 9, 3) := by decide +kernel
theorem dX2_seesDigit_29 : decode cX2_seesDigit 29 = .ok (.aload_n 0, 1) := by decide +kernel
theorem dX2_seesDigit_30 : decode cX2_seesDigit 30 = .ok (.getfield 19, 3) := by decide +kernel
theorem dX2_seesDigit_33 : decode cX2_seesDigit 33 = .ok (.caload, 1) := by decide +kernel
theorem dX2_seesDigit_34 : decode cX2_seesDigit 34 = .ok (.bipush 57, 2) := by decide +kernel
theorem dX2_seesDigit_36 : decode cX2_seesDigit 36 = .ok (.if_icmp .gt 7, 3) := by decide +kernel
theorem dX2_seesDigit_39 : decode cX2_seesDigit 39 = .ok (.iconst 1, 1) := by decide +kernel
theorem dX2_seesDigit_40 : decode cX2_seesDigit 40 = .ok (.goto 4, 3) := by decide +kernel
theorem dX2_seesDigit_43 : decode cX2_seesDigit 43 = .ok (.iconst 0, 1) := by decide +kernel
theorem dX2_seesDigit_44 : decode cX2_seesDigit 44 = .ok (.ireturn, 1) := by decide +kernel
theorem dX3_init_0 : decode cX3_init 0 = .ok (.aload_n 0, 1) := by decide +kernel
theorem dX3_init_1 : decode cX3_init 1 = .ok (.invokespecial 3, 3) := by decide +kernel
theorem dX3_init_4 : decode cX3_init 4 = .ok (.aload_n 0, 1) := by decide +kernel
theorem dX3_init_5 : decode cX3_init 5 = .ok (.sipush 500, 3) := by decide +kernel
theorem dX3_init_8 : decode cX3_init 8 = .ok (.newarray .int, 2) := by decide +kernel
theorem dX3_init_10 : decode cX3_init 10 = .ok (.putfield 9, 3) := by decide +kernel
theorem dX3_init_13 : decode cX3_init 13 = .ok (.aload_n 0, 1) := by decide +kernel
theorem dX3_init_14 : decode cX3_init 14 = .ok (.sipush 500, 3) := by decide +kernel
theorem dX3_init_17 : decode cX3_init 17 = .ok (.newarray .int, 2) := by decide +kernel
theorem dX3_init_19 : decode cX3_init 19 = .ok (.putfield 15, 3) := by decide +kernel
theorem dX3_init_22 : decode cX3_init 22 = .ok (.aload_n 0, 1) := by decide +kernel
theorem dX3_init_23 : decode cX3_init 23 = .ok (.bipush 16, 2) := by decide +kernel
theorem dX3_init_25 : decode cX3_init 25 = .ok (.newarray .int, 2) := by decide +kernel
theorem dX3_init_27 : decode cX3_init 27 = .ok (.putfield 18, 3) := by decide +kernel
theorem dX3_init_30 : decode cX3_init 30 = .ok (.aload_n 0, 1) := by decide +kernel
theorem dX3_init_31 : decode cX3_init 31 = .ok (.aload_n 1, 1) := by decide +kernel
theorem dX3_init_32 : decode cX3_init 32 = .ok (.putfield 21, 3) := by decide +kernel
theorem dX3_init_35 : decode cX3_init 35 = .ok (.return_, 1) := by decide +kernel
theorem dX3_execute_0 : decode cX3_execute 0 = .ok (.iconst 0, 1) := by decide +kernel
theorem dX3_execute_1 : decode cX3_execute 1 = .ok (.istore_n 2, 1) := by decide +kernel
theorem dX3_execute_2 : decode cX3_execute 2 = .ok (.iload_n 2, 1) := by decide +kernel
theorem dX3_execute_3 : decode cX3_execute 3 = .ok (.bipush 16, 2) := by decide +kernel
theorem dX3_execute_5 : decode cX3_execute 5 = .ok (.if_icmp .ge 16, 3) := by decide +kernel
theorem dX3_execute_8 : decode cX3_execute 8 = .ok (.aload_n 0, 1) := by decide +kernel
theorem dX3_execute_9 : decode cX3_execute 9 = .ok (.getfield 18, 3) := by decide +kernel
theorem dX3_execute_12 : decode cX3_execute 12 = .ok (.iload_n 2, 1) := by decide +kernel
theorem dX3_execute_13 : decode cX3_execute 13 = .ok (.iconst 0, 1) := by decide +kernel
theorem dX3_execute_14 : decode cX3_execute 14 = .ok (.iastore, 1) := by decide +kernel
theorem dX3_execute_15 : decode cX3_execute 15 = .ok (.iinc 2 1, 3) := by decide +kernel
theorem dX3_execute_18 : decode cX3_execute 18 = .ok (.goto (-16), 3) := by decide +kernel
theorem dX3_execute_21 : decode cX3_execute 21 = .ok (.iconst 0, 1) := by decide +kernel
theorem dX3_execute_22 : decode cX3_execute 22 = .ok (.istore_n 2, 1) := by decide +kernel
theorem dX3_execute_23 : decode cX3_execute 23 = .ok (.iconst 0, 1) := by decide +kernel
theorem dX3_execute_24 : decode cX3_execute 24 = .ok (.istore_n 3, 1) := by decide +kernel
theorem dX3_execute_25 : decode cX3_execute 25 = .ok (.iload_n 3, 1) := by decide +kernel
theorem dX3_execute_26 : decode cX3_execute 26 = .ok (.iload_n 1, 1) := by decide +kernel
theorem dX3_execute_27 : decode cX3_execute 27 = .ok (.if_icmp .ge 62, 3) := by decide +kernel
theorem dX3_execute_30 : decode cX3_execute 30 = .ok (.iload_n 3, 1) := by decide +kernel
theorem dX3_execute_31 : decode cX3_execute 31 = .ok (.sipush 500, 3) := by decide +kernel
theorem dX3_execute_34 : decode cX3_execute 34 = .ok (.if_icmp .ge 55, 3) := by decide +kernel
theorem dX3_execute_37 : decode cX3_execute 37 = .ok (.aload_n 0, 1) := by decide +kernel
theorem dX3_execute_38 : decode cX3_execute 38 = .ok (.getfield 21, 3) := by decide +kernel
theorem dX3_execute_41 : decode cX3_execute 41 = .ok (.iload_n 2, 1) := by decide +kernel
theorem dX3_execute_42 : decode cX3_execute 42 = .ok (.invokevirtual 25, 3) := by decide +kernel
theorem dX3_execute_45 : decode cX3_execute 45 = .ok (.ifCond .eq 44, 3) := by decide +kernel
theorem dX3_execute_48 : decode cX3_execute 48 = .ok (.aload_n 0, 1) := by decide +kernel
theorem dX3_execute_49 : decode cX3_execute 49 = .ok (.getfield 15, 3) := by decide +kernel
theorem dX3_execute_52 : decode cX3_execute 52 = .ok (.iload_n 3, 1) := by decide +kernel
theorem dX3_execute_53 : decode cX3_execute 53 = .ok (.iload_n 2, 1) := by decide +kernel
theorem dX3_execute_54 : decode cX3_execute 54 = .ok (.iastore, 1) := by decide +kernel
theorem dX3_execute_55 : decode cX3_execute 55 = .ok (.aload_n 0, 1) := by decide +kernel
theorem dX3_execute_56 : decode cX3_execute 56 = .ok (.getfield 21, 3) := by decide +kernel
theorem dX3_execute_59 : decode cX3_execute 59 = .ok (.getfield 31, 3) := by decide +kernel
theorem dX3_execute_62 : decode cX3_execute 62 = .ok (.iload_n 2, 1) := by decide +kernel
theorem dX3_execute_63 : decode cX3_execute 63 = .ok (.iaload, 1) := by decide +kernel
theorem dX3_execute_64 : decode cX3_execute 64 = .ok (.iconst 2, 1) := by decide +kernel
theorem dX3_execute_65 : decode cX3_execute 65 = .ok (.if_icmp .ne 12, 3) := by decide +kernel
theorem dX3_execute_68 : decode cX3_execute 68 = .ok (.aload_n 0, 1) := by decide +kernel
theorem dX3_execute_69 : decode cX3_execute 69 = .ok (.iload_n 3, 1) := by decide +kernel
theorem dX3_execute_70 : decode cX3_execute 70 = .ok (.iconst 1, 1) := by decide +kernel
theorem dX3_execute_71 : decode cX3_execute 71 = .ok (.iadd, 1) := by decide +kernel
theorem dX3_execute_72 : decode cX3_execute 72 = .ok (.invokevirtual 34, 3) := by decide +kernel
theorem dX3_execute_75 : decode cX3_execute 75 = .ok (.iconst 1, 1) := by decide +kernel
theorem dX3_execute_76 : decode cX3_execute 76 = .ok (.ireturn, 1) := by decide +kernel
theorem dX3_execute_77 : decode cX3_execute 77 = .ok (.aload_n 0, 1) := by decide +kernel
theorem dX3_execute_78 : decode cX3_execute 78 = .ok (.iload_n 2, 1) := by decide +kernel
theorem dX3_execute_79 : decode cX3_execute 79 = .ok (.invokevirtual 38, 3) := by decide +kernel
theorem dX3_execute_82 : decode cX3_execute 82 = .ok (.istore_n 2, 1) := by decide +kernel
theorem dX3_execute_83 : decode cX3_execute 83 = .ok (.iinc 3 1, 3) := by decide +kernel
theorem dX3_execute_86 : decode cX3_execute 86 = .ok (.goto (-61), 3) := by decide +kernel
theorem dX3_execute_89 : decode cX3_execute 89 = .ok (.iconst 0, 1) := by decide +kernel
theorem dX3_execute_90 : decode cX3_execute 90 = .ok (.ireturn, 1) := by decide +kernel
theorem dX3_follow_0 : decode cX3_follow 0 = .ok (.aload_n 0, 1) := by decide +kernel
theorem dX3_follow_1 : decode cX3_follow 1 = .ok (.getfield 18, 3) := by decide +kernel
theorem dX3_follow_4 : decode cX3_follow 4 = .ok (.iload_n 1, 1) := by decide +kernel
theorem dX3_follow_5 : decode cX3_follow 5 = .ok (.iaload, 1) := by decide +kernel
theorem dX3_follow_6 : decode cX3_follow 6 = .ok (.istore_n 2, 1) := by decide +kernel
theorem dX3_follow_7 : decode cX3_follow 7 = .ok (.aload_n 0, 1) := by decide +kernel
theorem dX3_follow_8 : decode cX3_follow 8 = .ok (.getfield 18, 3) := by decide +kernel
theorem dX3_follow_11 : decode cX3_follow 11 = .ok (.iload_n 1, 1) := by decide +kernel
theorem dX3_follow_12 : decode cX3_follow 12 = .ok (.iload_n 2, 1) := by decide +kernel
theorem dX3_follow_13 : decode cX3_follow 13 = .ok (.iconst 1, 1) := by decide +kernel
theorem dX3_follow_14 : decode cX3_follow 14 = .ok (.iadd, 1) := by decide +kernel
theorem dX3_follow_15 : decode cX3_follow 15 = .ok (.iastore, 1) := by decide +kernel
theorem dX3_follow_16 : decode cX3_follow 16 = .ok (.aload_n 0, 1) := by decide +kernel
theorem dX3_follow_17 : decode cX3_follow 17 = .ok (.getfield 21, 3) := by decide +kernel
theorem dX3_follow_20 : decode cX3_follow 20 = .ok (.getfield 42, 3) := by decide +kernel
theorem dX3_follow_23 : decode cX3_follow 23 = .ok (.iload_n 1, 1) := by decide +kernel
theorem dX3_follow_24 : decode cX3_follow 24 = .ok (.iaload, 1) := by decide +kernel
theorem dX3_follow_25 : decode cX3_follow 25 = .ok (.iload_n 2, 1) := by decide +kernel
theorem dX3_follow_26 : decode cX3_follow 26 = .ok (.bipush 31, 2) := by decide +kernel
theorem dX3_follow_28 : decode cX3_follow 28 = .ok (.iand, 1) := by decide +kernel
theorem dX3_follow_29 : decode cX3_follow 29 = .ok (.ishr, 1) := by decide +kernel
theorem dX3_follow_30 : decode cX3_follow 30 = .ok (.iconst 1, 1) := by decide +kernel
theorem dX3_follow_31 : decode cX3_follow 31 = .ok (.iand, 1) := by decide +kernel
theorem dX3_follow_32 : decode cX3_follow 32 = .ok (.iconst 1, 1) := by decide +kernel
theorem dX3_follow_33 : decode cX3_follow 33 = .ok (.if_icmp .ne 7, 3) := by decide +kernel
theorem dX3_follow_36 : decode cX3_follow 36 = .ok (.iconst 1, 1) := by decide +kernel
theorem dX3_follow_37 : decode cX3_follow 37 = .ok (.goto 4, 3) := by decide +kernel
theorem dX3_follow_40 : decode cX3_follow 40 = .ok (.iconst 0, 1) := by decide +kernel
theorem dX3_follow_41 : decode cX3_follow 41 = .ok (.istore_n 3, 1) := by decide +kernel
theorem dX3_follow_42 : decode cX3_follow 42 = .ok (.aload_n 0, 1) := by decide +kernel
theorem dX3_follow_43 : decode cX3_follow 43 = .ok (.getfield 21, 3) := by decide +kernel
theorem dX3_follow_46 : decode cX3_follow 46 = .ok (.getfield 31, 3) := by decide +kernel
theorem dX3_follow_49 : decode cX3_follow 49 = .ok (.iload_n 1, 1) := by decide +kernel
theorem dX3_follow_50 : decode cX3_follow 50 = .ok (.iaload, 1) := by decide +kernel
theorem dX3_follow_51 : decode cX3_follow 51 = .ok (.iconst 1, 1) := by decide +kernel
theorem dX3_follow_52 : decode cX3_follow 52 = .ok (.if_icmp .ne 17, 3) := by decide +kernel
theorem dX3_follow_55 : decode cX3_follow 55 = .ok (.iload_n 3, 1) := by decide +kernel
theorem dX3_follow_56 : decode cX3_follow 56 = .ok (.ifCond .ne 13, 3) := by decide +kernel
theorem dX3_follow_59 : decode cX3_follow 59 = .ok (.aload_n 0, 1) := by decide +kernel
theorem dX3_follow_60 : decode cX3_follow 60 = .ok (.getfield 21, 3) := by decide +kernel
theorem dX3_follow_63 : decode cX3_follow 63 = .ok (.getfield 45, 3) := by decide +kernel
theorem dX3_follow_66 : decode cX3_follow 66 = .ok (.iload_n 1, 1) := by decide +kernel
theorem dX3_follow_67 : decode cX3_follow 67 = .ok (.iaload, 1) := by decide +kernel
theorem dX3_follow_68 : decode cX3_follow 68 = .ok (.ireturn, 1) := by decide +kernel
theorem dX3_follow_69 : decode cX3_follow 69 = .ok (.aload_n 0, 1) := by decide +kernel
theorem dX3_follow_70 : decode cX3_follow 70 = .ok (.getfield 21, 3) := by decide +kernel
theorem dX3_follow_73 : decode cX3_follow 73 = .ok (.getfield 48, 3) := by decide +kernel
theorem dX3_follow_76 : decode cX3_follow 76 = .ok (.iload_n 1, 1) := by decide +kernel
theorem dX3_follow_77 : decode cX3_follow 77 = .ok (.iaload, 1) := by decide +kernel
theorem dX3_follow_78 : decode cX3_follow 78 = .ok (.ireturn, 1) := by decide +kernel
theorem dX3_keepPath_0 : decode cX3_keepPath 0 = .ok (.aload_n 0, 1) := by decide +kernel
theorem dX3_keepPath_1 : decode cX3_keepPath 1 = .ok (.getfield 9, 3) := by decide +kernel
theorem dX3_keepPath_4 : decode cX3_keepPath 4 = .ok (.astore_n 2, 1) := by decide +kernel
theorem dX3_keepPath_5 : decode cX3_keepPath 5 = .ok (.aload_n 0, 1) := by decide +kernel
theorem dX3_keepPath_6 : decode cX3_keepPath 6 = .ok (.aload_n 0, 1) := by decide +kernel
theorem dX3_keepPath_7 : decode cX3_keepPath 7 = .ok (.getfield 15, 3) := by decide +kernel
theorem dX3_keepPath_10 : decode cX3_keepPath 10 = .ok (.putfield 9, 3) := by decide +kernel
theorem dX3_keepPath_13 : decode cX3_keepPath 13 = .ok (.aload_n 0, 1) := by decide +kernel
theorem dX3_keepPath_14 : decode cX3_keepPath 14 = .ok (.aload_n 2, 1) := by decide +kernel
theorem dX3_keepPath_15 : decode cX3_keepPath 15 = .ok (.putfield 15, 3) := by decide +kernel
theorem dX3_keepPath_18 : decode cX3_keepPath 18 = .ok (.aload_n 0, 1) := by decide +kernel
theorem dX3_keepPath_19 : decode cX3_keepPath 19 = .ok (.iload_n 1, 1) := by decide +kernel
theorem dX3_keepPath_20 : decode cX3_keepPath 20 = .ok (.putfield 51, 3) := by decide +kernel
theorem dX3_keepPath_23 : decode cX3_keepPath 23 = .ok (.return_, 1) := by decide +kernel
theorem dX3_addToProfile_0 : decode cX3_addToProfile 0 = .ok (.iconst 0, 1) := by decide +kernel
theorem dX3_addToProfile_1 : decode cX3_addToProfile 1 = .ok (.istore_n 1, 1) := by decide +kernel
theorem dX3_addToProfile_2 : decode cX3_addToProfile 2 = .ok (.iload_n 1, 1) := by decide +kernel
theorem dX3_addToProfile_3 : decode cX3_addToProfile 3 = .ok (.aload_n 0, 1) := by decide +kernel
theorem dX3_addToProfile_4 : decode cX3_addToProfile 4 = .ok (.getfield 51, 3) := by decide +kernel
theorem dX3_addToProfile_7 : decode cX3_addToProfile 7 = .ok (.if_icmp .ge 52, 3) := by decide +kernel
theorem dX3_addToProfile_10 : decode cX3_addToProfile 10 = .ok (.aload_n 0, 1) := by decide +kernel
theorem dX3_addToProfile_11 : decode cX3_addToProfile 11 = .ok (.getfield 9, 3) := by decide +kernel
theorem dX3_addToProfile_14 : decode cX3_addToProfile 14 = .ok (.iload_n 1, 1) := by decide +kernel
theorem dX3_addToProfile_15 : decode cX3_addToProfile 15 = .ok (.iaload, 1) := by decide +kernel
theorem dX3_addToProfile_16 : decode cX3_addToProfile 16 = .ok (.istore_n 2, 1) := by decide +kernel
theorem dX3_addToProfile_17 : decode cX3_addToProfile 17 = .ok (.aload_n 0, 1) := by decide +kernel
theorem dX3_addToProfile_18 : decode cX3_addToProfile 18 = .ok (.getfield 21, 3) := by decide +kernel
theorem dX3_addToProfile_21 : decode cX3_addToProfile 21 = .ok (.getfield 55, 3) := by decide +kernel
theorem dX3_addToProfile_24 : decode cX3_addToProfile 24 = .ok (.iload_n 2, 1) := by decide +kernel
theorem dX3_addToProfile_25 : decode cX3_addToProfile 25 = .ok (.dup2, 1) := by decide +kernel
theorem dX3_addToProfile_26 : decode cX3_addToProfile 26 = .ok (.iaload, 1) := by decide +kernel
theorem dX3_addToProfile_27 : decode cX3_addToProfile 27 = .ok (.iconst 1, 1) := by decide +kernel
theorem dX3_addToProfile_28 : decode cX3_addToProfile 28 = .ok (.iadd, 1) := by decide +kernel
theorem dX3_addToProfile_29 : decode cX3_addToProfile 29 = .ok (.iastore, 1) := by decide +kernel
theorem dX3_addToProfile_30 : decode cX3_addToProfile 30 = .ok (.iload_n 1, 1) := by decide +kernel
theorem dX3_addToProfile_31 : decode cX3_addToProfile 31 = .ok (.iconst 1, 1) := by decide +kernel
theorem dX3_addToProfile_32 : decode cX3_addToProfile 32 = .ok (.iadd, 1) := by decide +kernel
theorem dX3_addToProfile_33 : decode cX3_addToProfile 33 = .ok (.aload_n 0, 1) := by decide +kernel
theorem dX3_addToProfile_34 : decode cX3_addToProfile 34 = .ok (.getfield 51, 3) := by decide +kernel
theorem dX3_addToProfile_37 : decode cX3_addToProfile 37 = .ok (.if_icmp .ge 16, 3) := by decide +kernel
theorem dX3_addToProfile_40 : decode cX3_addToProfile 40 = .ok (.aload_n 0, 1) := by decide +kernel
theorem dX3_addToProfile_41 : decode cX3_addToProfile 41 = .ok (.iload_n 2, 1) := by decide +kernel
theorem dX3_addToProfile_42 : decode cX3_addToProfile 42 = .ok (.aload_n 0, 1) := by decide +kernel
theorem dX3_addToProfile_43 : decode cX3_addToProfile 43 = .ok (.getfield 9, 3) := by decide +kernel
theorem dX3_addToProfile_46 : decode cX3_addToProfile 46 = .ok (.iload_n 1, 1) := by decide +kernel
theorem dX3_addToProfile_47 : decode cX3_addToProfile 47 = .ok (.iconst 1, 1) := by decide +kernel
theorem dX3_addToProfile_48 : decode cX3_addToProfile 48 = .ok (.iadd, 1) := by decide +kernel
theorem dX3_addToProfile_49 : decode cX3_addToProfile 49 = .ok (.iaload, 1) := by decide +kernel
theorem dX3_addToProfile_50 : decode cX3_addToProfile 50 = .ok (.invokevirtual 58, 3) := by decide +kernel
theorem dX3_addToProfile_53 : decode cX3_addToProfile 53 = .ok (.iinc 1 1, 3) := by decide +kernel
theorem dX3_addToProfile_56 : decode cX3_addToProfile 56 = .ok (.goto (-54), 3) := by decide +kernel
theorem dX3_addToProfile_59 : decode cX3_addToProfile 59 = .ok (.return_, 1) := by decide +kernel
theorem dX3_addToEdge_0 : decode cX3_addToEdge 0 = .ok (.aload_n 0, 1) := by decide +kernel
theorem dX3_addToEdge_1 : decode cX3_addToEdge 1 = .ok (.getfield 21, 3) := by decide +kernel
theorem dX3_addToEdge_4 : decode cX3_addToEdge 4 = .ok (.getfield 48, 3) := by decide +kernel
theorem dX3_addToEdge_7 : decode cX3_addToEdge 7 = .ok (.iload_n 1, 1) := by decide +kernel
theorem dX3_addToEdge_8 : decode cX3_addToEdge 8 = .ok (.iaload, 1) := by decide +kernel
theorem dX3_addToEdge_9 : decode cX3_addToEdge 9 = .ok (.iload_n 2, 1) := by decide +kernel
theorem dX3_addToEdge_10 : decode cX3_addToEdge 10 = .ok (.if_icmp .ne 19, 3) := by decide +kernel
theorem dX3_addToEdge_13 : decode cX3_addToEdge 13 = .ok (.aload_n 0, 1) := by decide +kernel
theorem dX3_addToEdge_14 : decode cX3_addToEdge 14 = .ok (.getfield 21, 3) := by decide +kernel
theorem dX3_addToEdge_17 : decode cX3_addToEdge 17 = .ok (.getfield 62, 3) := by decide +kernel
theorem dX3_addToEdge_20 : decode cX3_addToEdge 20 = .ok (.iload_n 1, 1) := by decide +kernel
theorem dX3_addToEdge_21 : decode cX3_addToEdge 21 = .ok (.dup2, 1) := by decide +kernel
theorem dX3_addToEdge_22 : decode cX3_addToEdge 22 = .ok (.iaload, 1) := by decide +kernel
theorem dX3_addToEdge_23 : decode cX3_addToEdge 23 = .ok (.iconst 1, 1) := by decide +kernel
theorem dX3_addToEdge_24 : decode cX3_addToEdge 24 = .ok (.iadd, 1) := by decide +kernel
theorem dX3_addToEdge_25 : decode cX3_addToEdge 25 = .ok (.iastore, 1) := by decide +kernel
theorem dX3_addToEdge_26 : decode cX3_addToEdge 26 = .ok (.goto 16, 3) := by decide +kernel
theorem dX3_addToEdge_29 : decode cX3_addToEdge 29 = .ok (.aload_n 0, 1) := by decide +kernel
theorem dX3_addToEdge_30 : decode cX3_addToEdge 30 = .ok (.getfield 21, 3) := by decide +kernel
theorem dX3_addToEdge_33 : decode cX3_addToEdge 33 = .ok (.getfield 65, 3) := by decide +kernel
theorem dX3_addToEdge_36 : decode cX3_addToEdge 36 = .ok (.iload_n 1, 1) := by decide +kernel
theorem dX3_addToEdge_37 : decode cX3_addToEdge 37 = .ok (.dup2, 1) := by decide +kernel
theorem dX3_addToEdge_38 : decode cX3_addToEdge 38 = .ok (.iaload, 1) := by decide +kernel
theorem dX3_addToEdge_39 : decode cX3_addToEdge 39 = .ok (.iconst 1, 1) := by decide +kernel
theorem dX3_addToEdge_40 : decode cX3_addToEdge 40 = .ok (.iadd, 1) := by decide +kernel
theorem dX3_addToEdge_41 : decode cX3_addToEdge 41 = .ok (.iastore, 1) := by decide +kernel
theorem dX3_addToEdge_42 : decode cX3_addToEdge 42 = .ok (.return_, 1) := by decide +kernel
theorem dX4_init_0 : decode cX4_init 0 = .ok (.aload_n 0, 1) := by decide +kernel
theorem dX4_init_1 : decode cX4_init 1 = .ok (.invokespecial 3, 3) := by decide +kernel
theorem dX4_init_4 : decode cX4_init 4 = .ok (.aload_n 0, 1) := by decide +kernel
theorem dX4_init_5 : decode cX4_init 5 = .ok (.bipush 16, 2) := by decide +kernel
theorem dX4_init_7 : decode cX4_init 7 = .ok (.newarray .int, 2) := by decide +kernel
theorem dX4_init_9 : decode cX4_init 9 = .ok (.putfield 9, 3) := by decide +kernel
theorem dX4_init_12 : decode cX4_init 12 = .ok (.aload_n 0, 1) := by decide +kernel
theorem dX4_init_13 : decode cX4_init 13 = .ok (.bipush 16, 2) := by decide +kernel
theorem dX4_init_15 : decode cX4_init 15 = .ok (.newarray .int, 2) := by decide +kernel
theorem dX4_init_17 : decode cX4_init 17 = .ok (.putfield 15, 3) := by decide +kernel
theorem dX4_init_20 : decode cX4_init 20 = .ok (.aload_n 0, 1) := by decide +kernel
theorem dX4_init_21 : decode cX4_init 21 = .ok (.bipush 16, 2) := by decide +kernel
theorem dX4_init_23 : decode cX4_init 23 = .ok (.newarray .int, 2) := by decide +kernel
theorem dX4_init_25 : decode cX4_init 25 = .ok (.putfield 18, 3) := by decide +kernel
theorem dX4_init_28 : decode cX4_init 28 = .ok (.aload_n 0, 1) := by decide +kernel
theorem dX4_init_29 : decode cX4_init 29 = .ok (.bipush 16, 2) := by decide +kernel
theorem dX4_init_31 : decode cX4_init 31 = .ok (.newarray .int, 2) := by decide +kernel
theorem dX4_init_33 : decode cX4_init 33 = .ok (.putfield 21, 3) := by decide +kernel
theorem dX4_init_36 : decode cX4_init 36 = .ok (.aload_n 0, 1) := by decide +kernel
theorem dX4_init_37 : decode cX4_init 37 = .ok (.bipush 16, 2) := by decide +kernel
theorem dX4_init_39 : decode cX4_init 39 = .ok (.newarray .int, 2) := by decide +kernel
theorem dX4_init_41 : decode cX4_init 41 = .ok (.putfield 24, 3) := by decide +kernel
theorem dX4_init_44 : decode cX4_init 44 = .ok (.aload_n 0, 1) := by decide +kernel
theorem dX4_init_45 : decode cX4_init 45 = .ok (.bipush 16, 2) := by decide +kernel
theorem dX4_init_47 : decode cX4_init 47 = .ok (.newarray .int, 2) := by decide +kernel
theorem dX4_init_49 : decode cX4_init 49 = .ok (.putfield 27, 3) := by decide +kernel
theorem dX4_init_52 : decode cX4_init 52 = .ok (.aload_n 0, 1) := by decide +kernel
theorem dX4_init_53 : decode cX4_init 53 = .ok (.bipush 16, 2) := by decide +kernel
theorem dX4_init_55 : decode cX4_init 55 = .ok (.newarray .int, 2) := by decide +kernel
theorem dX4_init_57 : decode cX4_init 57 = .ok (.putfield 30, 3) := by decide +kernel
theorem dX4_init_60 : decode cX4_init 60 = .ok (.aload_n 0, 1) := by decide +kernel
theorem dX4_init_61 : decode cX4_init 61 = .ok (.aload_n 1, 1) := by decide +kernel
theorem dX4_init_62 : decode cX4_init 62 = .ok (.putfield 33, 3) := by decide +kernel
theorem dX4_init_65 : decode cX4_init 65 = .ok (.aload_n 0, 1) := by decide +kernel
theorem dX4_init_66 : decode cX4_init 66 = .ok (.aload_n 2, 1) := by decide +kernel
theorem dX4_init_67 : decode cX4_init 67 = .ok (.putfield 37, 3) := by decide +kernel
theorem dX4_init_70 : decode cX4_init 70 = .ok (.return_, 1) := by decide +kernel
theorem dX4_settle_0 : decode cX4_settle 0 = .ok (.aload_n 0, 1) := by decide +kernel
theorem dX4_settle_1 : decode cX4_settle 1 = .ok (.invokevirtual 41, 3) := by decide +kernel
theorem dX4_settle_4 : decode cX4_settle 4 = .ok (.aload_n 0, 1) := by decide +kernel
theorem dX4_settle_5 : decode cX4_settle 5 = .ok (.iload_n 1, 1) := by decide +kernel
theorem dX4_settle_6 : decode cX4_settle 6 = .ok (.iload_n 2, 1) := by decide +kernel
theorem dX4_settle_7 : decode cX4_settle 7 = .ok (.invokevirtual 44, 3) := by decide +kernel
theorem dX4_settle_10 : decode cX4_settle 10 = .ok (.aload_n 0, 1) := by decide +kernel
theorem dX4_settle_11 : decode cX4_settle 11 = .ok (.invokevirtual 48, 3) := by decide +kernel
theorem dX4_settle_14 : decode cX4_settle 14 = .ok (.istore_n 3, 1) := by decide +kernel
theorem dX4_settle_15 : decode cX4_settle 15 = .ok (.iconst 0, 1) := by decide +kernel
theorem dX4_settle_16 : decode cX4_settle 16 = .ok (.istore 4, 2) := by decide +kernel
theorem dX4_settle_18 : decode cX4_settle 18 = .ok (.iload 4, 2) := by decide +kernel
theorem dX4_settle_20 : decode cX4_settle 20 = .ok (.bipush 32, 2) := by decide +kernel
theorem dX4_settle_22 : decode cX4_settle 22 = .ok (.if_icmp .ge 24, 3) := by decide +kernel
theorem dX4_settle_25 : decode cX4_settle 25 = .ok (.iload_n 3, 1) := by decide +kernel
theorem dX4_settle_26 : decode cX4_settle 26 = .ok (.ifCond .eq 20, 3) := by decide +kernel
theorem dX4_settle_29 : decode cX4_settle 29 = .ok (.aload_n 0, 1) := by decide +kernel
theorem dX4_settle_30 : decode cX4_settle 30 = .ok (.iload_n 1, 1) := by decide +kernel
theorem dX4_settle_31 : decode cX4_settle 31 = .ok (.iload_n 2, 1) := by decide +kernel
theorem dX4_settle_32 : decode cX4_settle 32 = .ok (.invokevirtual 44, 3) := by decide +kernel
theorem dX4_settle_35 : decode cX4_settle 35 = .ok (.aload_n 0, 1) := by decide +kernel
theorem dX4_settle_36 : decode cX4_settle 36 = .ok (.invokevirtual 48, 3) := by decide +kernel
theorem dX4_settle_39 : decode cX4_settle 39 = .ok (.istore_n 3, 1) := by decide +kernel
theorem dX4_settle_40 : decode cX4_settle 40 = .ok (.iinc 4 1, 3) := by decide +kernel
theorem dX4_settle_43 : decode cX4_settle 43 = .ok (.goto (-25), 3) := by decide +kernel
theorem dX4_settle_46 : decode cX4_settle 46 = .ok (.return_, 1) := by decide +kernel
theorem dX4_findForms_0 : decode cX4_findForms 0 = .ok (.iconst 0, 1) := by decide +kernel
theorem dX4_findForms_1 : decode cX4_findForms 1 = .ok (.istore_n 1, 1) := by decide +kernel
theorem dX4_findForms_2 : decode cX4_findForms 2 = .ok (.iload_n 1, 1) := by decide +kernel
theorem dX4_findForms_3 : decode cX4_findForms 3 = .ok (.aload_n 0, 1) := by decide +kernel
theorem dX4_findForms_4 : decode cX4_findForms 4 = .ok (.getfield 33, 3) := by decide +kernel
theorem dX4_findForms_7 : decode cX4_findForms 7 = .ok (.getfield 52, 3) := by decide +kernel
theorem dX4_findForms_10 : decode cX4_findForms 10 = .ok (.if_icmp .ge 138, 3) := by decide +kernel
theorem dX4_findForms_13 : decode cX4_findForms 13 = .ok (.aload_n 0, 1) := by decide +kernel
theorem dX4_findForms_14 : decode cX4_findForms 14 = .ok (.getfield 37, 3) := by decide +kernel
theorem dX4_findForms_17 : decode cX4_findForms 17 = .ok (.getfield 58, 3) := by decide +kernel
theorem dX4_findForms_20 : decode cX4_findForms 20 = .ok (.iload_n 1, 1) := by decide +kernel
theorem dX4_findForms_21 : decode cX4_findForms 21 = .ok (.iaload, 1) := by decide +kernel
theorem dX4_findForms_22 : decode cX4_findForms 22 = .ok (.istore_n 2, 1) := by decide +kernel
theorem dX4_findForms_23 : decode cX4_findForms 23 = .ok (.iload_n 1, 1) := by decide +kernel
theorem dX4_findForms_24 : decode cX4_findForms 24 = .ok (.iconst 1, 1) := by decide +kernel
theorem dX4_findForms_25 : decode cX4_findForms 25 = .ok (.iadd, 1) := by decide +kernel
theorem dX4_findForms_26 : decode cX4_findForms 26 = .ok (.aload_n 0, 1) := by decide +kernel
theorem dX4_findForms_27 : decode cX4_findForms 27 = .ok (.getfield 33, 3) := by decide +kernel
theorem dX4_findForms_30 : decode cX4_findForms 30 = .ok (.getfield 52, 3) := by decide +kernel
theorem dX4_findForms_33 : decode cX4_findForms 33 = .ok (.if_icmp .eq 16, 3) := by decide +kernel
theorem dX4_findForms_36 : decode cX4_findForms 36 = .ok (.iload_n 1, 1) := by decide +kernel
theorem dX4_findForms_37 : decode cX4_findForms 37 = .ok (.iconst 1, 1) := by decide +kernel
theorem dX4_findForms_38 : decode cX4_findForms 38 = .ok (.iadd, 1) := by decide +kernel
theorem dX4_findForms_39 : decode cX4_findForms 39 = .ok (.aload_n 0, 1) := by decide +kernel
theorem dX4_findForms_40 : decode cX4_findForms 40 = .ok (.getfield 37, 3) := by decide +kernel
theorem dX4_findForms_43 : decode cX4_findForms 43 = .ok (.getfield 63, 3) := by decide +kernel
theorem dX4_findForms_46 : decode cX4_findForms 46 = .ok (.if_icmp .ne 7, 3) := by decide +kernel
theorem dX4_findForms_49 : decode cX4_findForms 49 = .ok (.iconst 1, 1) := by decide +kernel
theorem dX4_findForms_50 : decode cX4_findForms 50 = .ok (.goto 4, 3) := by decide +kernel
theorem dX4_findForms_53 : decode cX4_findForms 53 = .ok (.iconst 0, 1) := by decide +kernel
theorem dX4_findForms_54 : decode cX4_findForms 54 = .ok (.istore_n 3, 1) := by decide +kernel
theorem dX4_findForms_55 : decode cX4_findForms 55 = .ok (.aload_n 0, 1) := by decide +kernel
theorem dX4_findForms_56 : decode cX4_findForms 56 = .ok (.getfield 9, 3) := by decide +kernel
theorem dX4_findForms_59 : decode cX4_findForms 59 = .ok (.iload_n 2, 1) := by decide +kernel
theorem dX4_findForms_60 : decode cX4_findForms 60 = .ok (.iload_n 1, 1) := by decide +kernel
theorem dX4_findForms_61 : decode cX4_findForms 61 = .ok (.iastore, 1) := by decide +kernel
theorem dX4_findForms_62 : decode cX4_findForms 62 = .ok (.aload_n 0, 1) := by decide +kernel
theorem dX4_findForms_63 : decode cX4_findForms 63 = .ok (.getfield 15, 3) := by decide +kernel
theorem dX4_findForms_66 : decode cX4_findForms 66 = .ok (.iload_n 2, 1) := by decide +kernel
theorem dX4_findForms_67 : decode cX4_findForms 67 = .ok (.iload_n 3, 1) := by decide +kernel
theorem dX4_findForms_68 : decode cX4_findForms 68 = .ok (.ifCond .eq 7, 3) := by decide +kernel
theorem dX4_findForms_71 : decode cX4_findForms 71 = .ok (.iconst (-1), 1) := by decide +kernel
theorem dX4_findForms_72 : decode cX4_findForms 72 = .ok (.goto 14, 3) := by decide +kernel
theorem dX4_findForms_75 : decode cX4_findForms 75 = .ok (.aload_n 0, 1) := by decide +kernel
theorem dX4_findForms_76 : decode cX4_findForms 76 = .ok (.getfield 37, 3) := by decide +kernel
theorem dX4_findForms_79 : decode cX4_findForms 79 = .ok (.getfield 58, 3) := by decide +kernel
theorem dX4_findForms_82 : decode cX4_findForms 82 = .ok (.iload_n 1, 1) := by decide +kernel
theorem dX4_findForms_83 : decode cX4_findForms 83 = .ok (.iconst 1, 1) := by decide +kernel
theorem dX4_findForms_84 : decode cX4_findForms 84 = .ok (.iadd, 1) := by decide +kernel
theorem dX4_findForms_85 : decode cX4_findForms 85 = .ok (.iaload, 1) := by decide +kernel
theorem dX4_findForms_86 : decode cX4_findForms 86 = .ok (.iastore, 1) := by decide +kernel
theorem dX4_findForms_87 : decode cX4_findForms 87 = .ok (.aload_n 0, 1) := by decide +kernel
theorem dX4_findForms_88 : decode cX4_findForms 88 = .ok (.getfield 18, 3) := by decide +kernel
theorem dX4_findForms_91 : decode cX4_findForms 91 = .ok (.iload_n 2, 1) := by decide +kernel
theorem dX4_findForms_92 : decode cX4_findForms 92 = .ok (.aload_n 0, 1) := by decide +kernel
theorem dX4_findForms_93 : decode cX4_findForms 93 = .ok (.iload_n 2, 1) := by decide +kernel
theorem dX4_findForms_94 : decode cX4_findForms 94 = .ok (.aload_n 0, 1) := by decide +kernel
theorem dX4_findForms_95 : decode cX4_findForms 95 = .ok (.getfield 15, 3) := by decide +kernel
theorem dX4_findForms_98 : decode cX4_findForms 98 = .ok (.iload_n 2, 1) := by decide +kernel
theorem dX4_findForms_99 : decode cX4_findForms 99 = .ok (.iaload, 1) := by decide +kernel
theorem dX4_findForms_100 : decode cX4_findForms 100 = .ok (.invokevirtual 66, 3) := by decide +kernel
theorem dX4_findForms_103 : decode cX4_findForms 103 = .ok (.iastore, 1) := by decide +kernel
theorem dX4_findForms_104 : decode cX4_findForms 104 = .ok (.aload_n 0, 1) := by decide +kernel
theorem dX4_findForms_105 : decode cX4_findForms 105 = .ok (.getfield 21, 3) := by decide +kernel
theorem dX4_findForms_108 : decode cX4_findForms 108 = .ok (.iload_n 2, 1) := by decide +kernel
theorem dX4_findForms_109 : decode cX4_findForms 109 = .ok (.aload_n 0, 1) := by decide +kernel
theorem dX4_findForms_110 : decode cX4_findForms 110 = .ok (.iload_n 2, 1) := by decide +kernel
theorem dX4_findForms_111 : decode cX4_findForms 111 = .ok (.invokevirtual 70, 3) := by decide +kernel
theorem dX4_findForms_114 : decode cX4_findForms 114 = .ok (.ifCond .eq 7, 3) := by decide +kernel
theorem dX4_findForms_117 : decode cX4_findForms 117 = .ok (.iconst 2, 1) := by decide +kernel
theorem dX4_findForms_118 : decode cX4_findForms 118 = .ok (.goto 4, 3) := by decide +kernel
theorem dX4_findForms_121 : decode cX4_findForms 121 = .ok (.iconst 0, 1) := by decide +kernel
theorem dX4_findForms_122 : decode cX4_findForms 122 = .ok (.iastore, 1) := by decide +kernel
theorem dX4_findForms_123 : decode cX4_findForms 123 = .ok (.aload_n 0, 1) := by decide +kernel
theorem dX4_findForms_124 : decode cX4_findForms 124 = .ok (.getfield 24, 3) := by decide +kernel
theorem dX4_findForms_127 : decode cX4_findForms 127 = .ok (.iload_n 2, 1) := by decide +kernel
theorem dX4_findForms_128 : decode cX4_findForms 128 = .ok (.aload_n 0, 1) := by decide +kernel
theorem dX4_findForms_129 : decode cX4_findForms 129 = .ok (.iload_n 2, 1) := by decide +kernel
theorem dX4_findForms_130 : decode cX4_findForms 130 = .ok (.invokevirtual 74, 3) := by decide +kernel
theorem dX4_findForms_133 : decode cX4_findForms 133 = .ok (.ifCond .eq 7, 3) := by decide +kernel
theorem dX4_findForms_136 : decode cX4_findForms 136 = .ok (.iconst 2, 1) := by decide +kernel
theorem dX4_findForms_137 : decode cX4_findForms 137 = .ok (.goto 4, 3) := by decide +kernel
theorem dX4_findForms_140 : decode cX4_findForms 140 = .ok (.iconst 0, 1) := by decide +kernel
theorem dX4_findForms_141 : decode cX4_findForms 141 = .ok (.iastore, 1) := by decide +kernel
theorem dX4_findForms_142 : decode cX4_findForms 142 = .ok (.iinc 1 1, 3) := by decide +kernel
theorem dX4_findForms_145 : decode cX4_findForms 145 = .ok (.goto (-143), 3) := by decide +kernel
theorem dX4_findForms_148 : decode cX4_findForms 148 = .ok (.return_, 1) := by decide +kernel
theorem dX4_formOf_0 : decode cX4_formOf 0 = .ok (.aload_n 0, 1) := by decide +kernel
theorem dX4_formOf_1 : decode cX4_formOf 1 = .ok (.getfield 33, 3) := by decide +kernel
theorem dX4_formOf_4 : decode cX4_formOf 4 = .ok (.getfield 77, 3) := by decide +kernel
theorem dX4_formOf_7 : decode cX4_formOf 7 = .ok (.iload_n 1, 1) := by decide +kernel
theorem dX4_formOf_8 : decode cX4_formOf 8 = .ok (.iaload, 1) := by decide +kernel
theorem dX4_formOf_9 : decode cX4_formOf 9 = .ok (.istore_n 3, 1) := by decide +kernel
theorem dX4_formOf_10 : decode cX4_formOf 10 = .ok (.iload_n 3, 1) := by decide +kernel
theorem dX4_formOf_11 : decode cX4_formOf 11 = .ok (.iconst 2, 1) := by decide +kernel
theorem dX4_formOf_12 : decode cX4_formOf 12 = .ok (.if_icmp .ne 5, 3) := by decide +kernel
theorem dX4_formOf_15 : decode cX4_formOf 15 = .ok (.iconst 5, 1) := by decide +kernel
theorem dX4_formOf_16 : decode cX4_formOf 16 = .ok (.ireturn, 1) := by decide +kernel
theorem dX4_formOf_17 : decode cX4_formOf 17 = .ok (.iload_n 3, 1) := by decide +kernel
theorem dX4_formOf_18 : decode cX4_formOf 18 = .ok (.ifCond .ne 22, 3) := by decide +kernel
theorem dX4_formOf_21 : decode cX4_formOf 21 = .ok (.aload_n 0, 1) := by decide +kernel
theorem dX4_formOf_22 : decode cX4_formOf 22 = .ok (.getfield 33, 3) := by decide +kernel
theorem dX4_formOf_25 : decode cX4_formOf 25 = .ok (.getfield 80, 3) := by decide +kernel
theorem dX4_formOf_28 : decode cX4_formOf 28 = .ok (.iload_n 1, 1) := by decide +kernel
theorem dX4_formOf_29 : decode cX4_formOf 29 = .ok (.iaload, 1) := by decide +kernel
theorem dX4_formOf_30 : decode cX4_formOf 30 = .ok (.iload_n 2, 1) := by decide +kernel
theorem dX4_formOf_31 : decode cX4_formOf 31 = .ok (.if_icmp .ne 7, 3) := by decide +kernel
theorem dX4_formOf_34 : decode cX4_formOf 34 = .ok (.iconst 0, 1) := by decide +kernel
theorem dX4_formOf_35 : decode cX4_formOf 35 = .ok (.goto 4, 3) := by decide +kernel
theorem dX4_formOf_38 : decode cX4_formOf 38 = .ok (.iconst 1, 1) := by decide +kernel
theorem dX4_formOf_39 : decode cX4_formOf 39 = .ok (.ireturn, 1) := by decide +kernel
theorem dX4_formOf_40 : decode cX4_formOf 40 = .ok (.aload_n 0, 1) := by decide +kernel
theorem dX4_formOf_41 : decode cX4_formOf 41 = .ok (.getfield 33, 3) := by decide +kernel
theorem dX4_formOf_44 : decode cX4_formOf 44 = .ok (.getfield 83, 3) := by decide +kernel
theorem dX4_formOf_47 : decode cX4_formOf 47 = .ok (.iload_n 1, 1) := by decide +kernel
theorem dX4_formOf_48 : decode cX4_formOf 48 = .ok (.iaload, 1) := by decide +kernel
theorem dX4_formOf_49 : decode cX4_formOf 49 = .ok (.iload_n 2, 1) := by decide +kernel
theorem dX4_formOf_50 : decode cX4_formOf 50 = .ok (.if_icmp .ne 5, 3) := by decide +kernel
theorem dX4_formOf_53 : decode cX4_formOf 53 = .ok (.iconst 2, 1) := by decide +kernel
theorem dX4_formOf_54 : decode cX4_formOf 54 = .ok (.ireturn, 1) := by decide +kernel
theorem dX4_formOf_55 : decode cX4_formOf 55 = .ok (.aload_n 0, 1) := by decide +kernel
theorem dX4_formOf_56 : decode cX4_formOf 56 = .ok (.getfield 33, 3) := by decide +kernel
theorem dX4_formOf_59 : decode cX4_formOf 59 = .ok (.getfield 80, 3) := by decide +kernel
theorem dX4_formOf_62 : decode cX4_formOf 62 = .ok (.iload_n 1, 1) := by decide +kernel
theorem dX4_formOf_63 : decode cX4_formOf 63 = .ok (.iaload, 1) := by decide +kernel
theorem dX4_formOf_64 : decode cX4_formOf 64 = .ok (.iload_n 2, 1) := by decide +kernel
theorem dX4_formOf_65 : decode cX4_formOf 65 = .ok (.if_icmp .ne 7, 3) := by decide +kernel
theorem dX4_formOf_68 : decode cX4_formOf 68 = .ok (.iconst 3, 1) := by decide +kernel
theorem dX4_formOf_69 : decode cX4_formOf 69 = .ok (.goto 4, 3) := by decide +kernel
theorem dX4_formOf_72 : decode cX4_formOf 72 = .ok (.iconst 4, 1) := by decide +kernel
theorem dX4_formOf_73 : decode cX4_formOf 73 = .ok (.ireturn, 1) := by decide +kernel
theorem dX4_hasBranch_0 : decode cX4_hasBranch 0 = .ok (.aload_n 0, 1) := by decide +kernel
theorem dX4_hasBranch_1 : decode cX4_hasBranch 1 = .ok (.getfield 18, 3) := by decide +kernel
theorem dX4_hasBranch_4 : decode cX4_hasBranch 4 = .ok (.iload_n 1, 1) := by decide +kernel
theorem dX4_hasBranch_5 : decode cX4_hasBranch 5 = .ok (.iaload, 1) := by decide +kernel
theorem dX4_hasBranch_6 : decode cX4_hasBranch 6 = .ok (.iconst 2, 1) := by decide +kernel
theorem dX4_hasBranch_7 : decode cX4_hasBranch 7 = .ok (.if_icmp .eq 23, 3) := by decide +kernel
theorem dX4_hasBranch_10 : decode cX4_hasBranch 10 = .ok (.aload_n 0, 1) := by decide +kernel
theorem dX4_hasBranch_11 : decode cX4_hasBranch 11 = .ok (.getfield 18, 3) := by decide +kernel
theorem dX4_hasBranch_14 : decode cX4_hasBranch 14 = .ok (.iload_n 1, 1) := by decide +kernel
theorem dX4_hasBranch_15 : decode cX4_hasBranch 15 = .ok (.iaload, 1) := by decide +kernel
theorem dX4_hasBranch_16 : decode cX4_hasBranch 16 = .ok (.iconst 3, 1) := by decide +kernel
theorem dX4_hasBranch_17 : decode cX4_hasBranch 17 = .ok (.if_icmp .eq 13, 3) := by decide +kernel
theorem dX4_hasBranch_20 : decode cX4_hasBranch 20 = .ok (.aload_n 0, 1) := by decide +kernel
theorem dX4_hasBranch_21 : decode cX4_hasBranch 21 = .ok (.getfield 18, 3) := by decide +kernel
theorem dX4_hasBranch_24 : decode cX4_hasBranch 24 = .ok (.iload_n 1, 1) := by decide +kernel
theorem dX4_hasBranch_25 : decode cX4_hasBranch 25 = .ok (.iaload, 1) := by decide +kernel
theorem dX4_hasBranch_26 : decode cX4_hasBranch 26 = .ok (.iconst 4, 1) := by decide +kernel
theorem dX4_hasBranch_27 : decode cX4_hasBranch 27 = .ok (.if_icmp .ne 7, 3) := by decide +kernel
theorem dX4_hasBranch_30 : decode cX4_hasBranch 30 = .ok (.iconst 1, 1) := by decide +kernel
theorem dX4_hasBranch_31 : decode cX4_hasBranch 31 = .ok (.goto 4, 3) := by decide +kernel
theorem dX4_hasBranch_34 : decode cX4_hasBranch 34 = .ok (.iconst 0, 1) := by decide +kernel
theorem dX4_hasBranch_35 : decode cX4_hasBranch 35 = .ok (.ireturn, 1) := by decide +kernel
theorem dX4_hasJump_0 : decode cX4_hasJump 0 = .ok (.aload_n 0, 1) := by decide +kernel
theorem dX4_hasJump_1 : decode cX4_hasJump 1 = .ok (.getfield 18, 3) := by decide +kernel
theorem dX4_hasJump_4 : decode cX4_hasJump 4 = .ok (.iload_n 1, 1) := by decide +kernel
theorem dX4_hasJump_5 : decode cX4_hasJump 5 = .ok (.iaload, 1) := by decide +kernel
theorem dX4_hasJump_6 : decode cX4_hasJump 6 = .ok (.iconst 1, 1) := by decide +kernel
theorem dX4_hasJump_7 : decode cX4_hasJump 7 = .ok (.if_icmp .eq 13, 3) := by decide +kernel
theorem dX4_hasJump_10 : decode cX4_hasJump 10 = .ok (.aload_n 0, 1) := by decide +kernel
theorem dX4_hasJump_11 : decode cX4_hasJump 11 = .ok (.getfield 18, 3) := by decide +kernel
theorem dX4_hasJump_14 : decode cX4_hasJump 14 = .ok (.iload_n 1, 1) := by decide +kernel
theorem dX4_hasJump_15 : decode cX4_hasJump 15 = .ok (.iaload, 1) := by decide +kernel
theorem dX4_hasJump_16 : decode cX4_hasJump 16 = .ok (.iconst 4, 1) := by decide +kernel
theorem dX4_hasJump_17 : decode cX4_hasJump 17 = .ok (.if_icmp .ne 7, 3) := by decide +kernel
theorem dX4_hasJump_20 : decode cX4_hasJump 20 = .ok (.iconst 1, 1) := by decide +kernel
theorem dX4_hasJump_21 : decode cX4_hasJump 21 = .ok (.goto 4, 3) := by decide +kernel
theorem dX4_hasJump_24 : decode cX4_hasJump 24 = .ok (.iconst 0, 1) := by decide +kernel
theorem dX4_hasJump_25 : decode cX4_hasJump 25 = .ok (.ireturn, 1) := by decide +kernel
theorem dX4_setAddresses_0 : decode cX4_setAddresses 0 = .ok (.iconst 0, 1) := by decide +kernel
theorem dX4_setAddresses_1 : decode cX4_setAddresses 1 = .ok (.istore_n 3, 1) := by decide +kernel
theorem dX4_setAddresses_2 : decode cX4_setAddresses 2 = .ok (.iconst 0, 1) := by decide +kernel
theorem dX4_setAddresses_3 : decode cX4_setAddresses 3 = .ok (.istore 4, 2) := by decide +kernel
theorem dX4_setAddresses_5 : decode cX4_setAddresses 5 = .ok (.iload 4, 2) := by decide +kernel
theorem dX4_setAddresses_7 : decode cX4_setAddresses 7 = .ok (.aload_n 0, 1) := by decide +kernel
theorem dX4_setAddresses_8 : decode cX4_setAddresses 8 = .ok (.getfield 33, 3) := by decide +kernel
theorem dX4_setAddresses_11 : decode cX4_setAddresses 11 = .ok (.getfield 52, 3) := by decide +kernel
theorem dX4_setAddresses_14 : decode cX4_setAddresses 14 = .ok (.if_icmp .ge 139, 3) := by decide +kernel
theorem dX4_setAddresses_17 : decode cX4_setAddresses 17 = .ok (.aload_n 0, 1) := by decide +kernel
theorem dX4_setAddresses_18 : decode cX4_setAddresses 18 = .ok (.getfield 37, 3) := by decide +kernel
theorem dX4_setAddresses_21 : decode cX4_setAddresses 21 = .ok (.getfield 58, 3) := by decide +kernel
theorem dX4_setAddresses_24 : decode cX4_setAddresses 24 = .ok (.iload 4, 2) := by decide +kernel
theorem dX4_setAddresses_26 : decode cX4_setAddresses 26 = .ok (.iaload, 1) := by decide +kernel
theorem dX4_setAddresses_27 : decode cX4_setAddresses 27 = .ok (.istore 5, 2) := by decide +kernel
theorem dX4_setAddresses_29 : decode cX4_setAddresses 29 = .ok (.iload 4, 2) := by decide +kernel
theorem dX4_setAddresses_31 : decode cX4_setAddresses 31 = .ok (.aload_n 0, 1) := by decide +kernel
theorem dX4_setAddresses_32 : decode cX4_setAddresses 32 = .ok (.getfield 37, 3) := by decide +kernel
theorem dX4_setAddresses_35 : decode cX4_setAddresses 35 = .ok (.getfield 63, 3) := by decide +kernel
theorem dX4_setAddresses_38 : decode cX4_setAddresses 38 = .ok (.if_icmp .ne 12, 3) := by decide +kernel
theorem dX4_setAddresses_41 : decode cX4_setAddresses 41 = .ok (.iload_n 3, 1) := by decide +kernel
theorem dX4_setAddresses_42 : decode cX4_setAddresses 42 = .ok (.bipush 64, 2) := by decide +kernel
theorem dX4_setAddresses_44 : decode cX4_setAddresses 44 = .ok (.invokestatic 86, 3) := by decide +kernel
theorem dX4_setAddresses_47 : decode cX4_setAddresses 47 = .ok (.goto 4, 3) := by decide +kernel
theorem dX4_setAddresses_50 : decode cX4_setAddresses 50 = .ok (.iload_n 3, 1) := by decide +kernel
theorem dX4_setAddresses_51 : decode cX4_setAddresses 51 = .ok (.istore 6, 2) := by decide +kernel
theorem dX4_setAddresses_53 : decode cX4_setAddresses 53 = .ok (.aload_n 0, 1) := by decide +kernel
theorem dX4_setAddresses_54 : decode cX4_setAddresses 54 = .ok (.getfield 33, 3) := by decide +kernel
theorem dX4_setAddresses_57 : decode cX4_setAddresses 57 = .ok (.iload 5, 2) := by decide +kernel
theorem dX4_setAddresses_59 : decode cX4_setAddresses 59 = .ok (.invokevirtual 89, 3) := by decide +kernel
theorem dX4_setAddresses_62 : decode cX4_setAddresses 62 = .ok (.ifCond .eq 25, 3) := by decide +kernel
theorem dX4_setAddresses_65 : decode cX4_setAddresses 65 = .ok (.aload_n 0, 1) := by decide +kernel
theorem dX4_setAddresses_66 : decode cX4_setAddresses 66 = .ok (.getfield 33, 3) := by decide +kernel
theorem dX4_setAddresses_69 : decode cX4_setAddresses 69 = .ok (.getfield 92, 3) := by decide +kernel
theorem dX4_setAddresses_72 : decode cX4_setAddresses 72 = .ok (.iload 5, 2) := by decide +kernel
theorem dX4_setAddresses_74 : decode cX4_setAddresses 74 = .ok (.iaload, 1) := by decide +kernel
theorem dX4_setAddresses_75 : decode cX4_setAddresses 75 = .ok (.iload_n 2, 1) := by decide +kernel
theorem dX4_setAddresses_76 : decode cX4_setAddresses 76 = .ok (.if_icmp .lt 11, 3) := by decide +kernel
theorem dX4_setAddresses_79 : decode cX4_setAddresses 79 = .ok (.iload 6, 2) := by decide +kernel
theorem dX4_setAddresses_81 : decode cX4_setAddresses 81 = .ok (.iload_n 1, 1) := by decide +kernel
theorem dX4_setAddresses_82 : decode cX4_setAddresses 82 = .ok (.invokestatic 86, 3) := by decide +kernel
theorem dX4_setAddresses_85 : decode cX4_setAddresses 85 = .ok (.istore 6, 2) := by decide +kernel
theorem dX4_setAddresses_87 : decode cX4_setAddresses 87 = .ok (.aload_n 0, 1) := by decide +kernel
theorem dX4_setAddresses_88 : decode cX4_setAddresses 88 = .ok (.getfield 27, 3) := by decide +kernel
theorem dX4_setAddresses_91 : decode cX4_setAddresses 91 = .ok (.iload 5, 2) := by decide +kernel
theorem dX4_setAddresses_93 : decode cX4_setAddresses 93 = .ok (.iload 6, 2) := by decide +kernel
theorem dX4_setAddresses_95 : decode cX4_setAddresses 95 = .ok (.iastore, 1) := by decide +kernel
theorem dX4_setAddresses_96 : decode cX4_setAddresses 96 = .ok (.aload_n 0, 1) := by decide +kernel
theorem dX4_setAddresses_97 : decode cX4_setAddresses 97 = .ok (.getfield 30, 3) := by decide +kernel
theorem dX4_setAddresses_100 : decode cX4_setAddresses 100 = .ok (.iload 5, 2) := by decide +kernel
theorem dX4_setAddresses_102 : decode cX4_setAddresses 102 = .ok (.iload 6, 2) := by decide +kernel
theorem dX4_setAddresses_104 : decode cX4_setAddresses 104 = .ok (.iload_n 3, 1) := by decide +kernel
theorem dX4_setAddresses_105 : decode cX4_setAddresses 105 = .ok (.isub, 1) := by decide +kernel
theorem dX4_setAddresses_106 : decode cX4_setAddresses 106 = .ok (.iastore, 1) := by decide +kernel
theorem dX4_setAddresses_107 : decode cX4_setAddresses 107 = .ok (.iload 6, 2) := by decide +kernel
theorem dX4_setAddresses_109 : decode cX4_setAddresses 109 = .ok (.aload_n 0, 1) := by decide +kernel
theorem dX4_setAddresses_110 : decode cX4_setAddresses 110 = .ok (.getfield 33, 3) := by decide +kernel
theorem dX4_setAddresses_113 : decode cX4_setAddresses 113 = .ok (.getfield 95, 3) := by decide +kernel
theorem dX4_setAddresses_116 : decode cX4_setAddresses 116 = .ok (.iload 5, 2) := by decide +kernel
theorem dX4_setAddresses_118 : decode cX4_setAddresses 118 = .ok (.iaload, 1) := by decide +kernel
theorem dX4_setAddresses_119 : decode cX4_setAddresses 119 = .ok (.iadd, 1) := by decide +kernel
theorem dX4_setAddresses_120 : decode cX4_setAddresses 120 = .ok (.aload_n 0, 1) := by decide +kernel
theorem dX4_setAddresses_121 : decode cX4_setAddresses 121 = .ok (.iload 5, 2) := by decide +kernel
theorem dX4_setAddresses_123 : decode cX4_setAddresses 123 = .ok (.invokevirtual 98, 3) := by decide +kernel
theorem dX4_setAddresses_126 : decode cX4_setAddresses 126 = .ok (.iadd, 1) := by decide +kernel
theorem dX4_setAddresses_127 : decode cX4_setAddresses 127 = .ok (.istore_n 3, 1) := by decide +kernel
theorem dX4_setAddresses_128 : decode cX4_setAddresses 128 = .ok (.iload 4, 2) := by decide +kernel
theorem dX4_setAddresses_130 : decode cX4_setAddresses 130 = .ok (.iconst 1, 1) := by decide +kernel
theorem dX4_setAddresses_131 : decode cX4_setAddresses 131 = .ok (.iadd, 1) := by decide +kernel
theorem dX4_setAddresses_132 : decode cX4_setAddresses 132 = .ok (.aload_n 0, 1) := by decide +kernel
theorem dX4_setAddresses_133 : decode cX4_setAddresses 133 = .ok (.getfield 37, 3) := by decide +kernel
theorem dX4_setAddresses_136 : decode cX4_setAddresses 136 = .ok (.getfield 63, 3) := by decide +kernel
theorem dX4_setAddresses_139 : decode cX4_setAddresses 139 = .ok (.if_icmp .ne 8, 3) := by decide +kernel
theorem dX4_setAddresses_142 : decode cX4_setAddresses 142 = .ok (.aload_n 0, 1) := by decide +kernel
theorem dX4_setAddresses_143 : decode cX4_setAddresses 143 = .ok (.iload_n 3, 1) := by decide +kernel
theorem dX4_setAddresses_144 : decode cX4_setAddresses 144 = .ok (.putfield 102, 3) := by decide +kernel
theorem dX4_setAddresses_147 : decode cX4_setAddresses 147 = .ok (.iinc 4 1, 3) := by decide +kernel
theorem dX4_setAddresses_150 : decode cX4_setAddresses 150 = .ok (.goto (-145), 3) := by decide +kernel
theorem dX4_setAddresses_153 : decode cX4_setAddresses 153 = .ok (.aload_n 0, 1) := by decide +kernel
theorem dX4_setAddresses_154 : decode cX4_setAddresses 154 = .ok (.iload_n 3, 1) := by decide +kernel
theorem dX4_setAddresses_155 : decode cX4_setAddresses 155 = .ok (.putfield 105, 3) := by decide +kernel
theorem dX4_setAddresses_158 : decode cX4_setAddresses 158 = .ok (.return_, 1) := by decide +kernel
theorem dX4_multipleFrom_0 : decode cX4_multipleFrom 0 = .ok (.iload_n 0, 1) := by decide +kernel
theorem dX4_multipleFrom_1 : decode cX4_multipleFrom 1 = .ok (.iload_n 1, 1) := by decide +kernel
theorem dX4_multipleFrom_2 : decode cX4_multipleFrom 2 = .ok (.iadd, 1) := by decide +kernel
theorem dX4_multipleFrom_3 : decode cX4_multipleFrom 3 = .ok (.iconst 1, 1) := by decide +kernel
theorem dX4_multipleFrom_4 : decode cX4_multipleFrom 4 = .ok (.isub, 1) := by decide +kernel
theorem dX4_multipleFrom_5 : decode cX4_multipleFrom 5 = .ok (.iload_n 1, 1) := by decide +kernel
theorem dX4_multipleFrom_6 : decode cX4_multipleFrom 6 = .ok (.ineg, 1) := by decide +kernel
theorem dX4_multipleFrom_7 : decode cX4_multipleFrom 7 = .ok (.iand, 1) := by decide +kernel
theorem dX4_multipleFrom_8 : decode cX4_multipleFrom 8 = .ok (.ireturn, 1) := by decide +kernel
theorem dX4_widen_0 : decode cX4_widen 0 = .ok (.iconst 0, 1) := by decide +kernel
theorem dX4_widen_1 : decode cX4_widen 1 = .ok (.istore_n 1, 1) := by decide +kernel
theorem dX4_widen_2 : decode cX4_widen 2 = .ok (.iconst 0, 1) := by decide +kernel
theorem dX4_widen_3 : decode cX4_widen 3 = .ok (.istore_n 2, 1) := by decide +kernel
theorem dX4_widen_4 : decode cX4_widen 4 = .ok (.iload_n 2, 1) := by decide +kernel
theorem dX4_widen_5 : decode cX4_widen 5 = .ok (.aload_n 0, 1) := by decide +kernel
theorem dX4_widen_6 : decode cX4_widen 6 = .ok (.getfield 33, 3) := by decide +kernel
theorem dX4_widen_9 : decode cX4_widen 9 = .ok (.getfield 52, 3) := by decide +kernel
theorem dX4_widen_12 : decode cX4_widen 12 = .ok (.if_icmp .ge 109, 3) := by decide +kernel
theorem dX4_widen_15 : decode cX4_widen 15 = .ok (.aload_n 0, 1) := by decide +kernel
theorem dX4_widen_16 : decode cX4_widen 16 = .ok (.getfield 27, 3) := by decide +kernel
theorem dX4_widen_19 : decode cX4_widen 19 = .ok (.iload_n 2, 1) := by decide +kernel
theorem dX4_widen_20 : decode cX4_widen 20 = .ok (.iaload, 1) := by decide +kernel
theorem dX4_widen_21 : decode cX4_widen 21 = .ok (.aload_n 0, 1) := by decide +kernel
theorem dX4_widen_22 : decode cX4_widen 22 = .ok (.getfield 33, 3) := by decide +kernel
theorem dX4_widen_25 : decode cX4_widen 25 = .ok (.getfield 95, 3) := by decide +kernel
theorem dX4_widen_28 : decode cX4_widen 28 = .ok (.iload_n 2, 1) := by decide +kernel
theorem dX4_widen_29 : decode cX4_widen 29 = .ok (.iaload, 1) := by decide +kernel
theorem dX4_widen_30 : decode cX4_widen 30 = .ok (.iadd, 1) := by decide +kernel
theorem dX4_widen_31 : decode cX4_widen 31 = .ok (.aload_n 0, 1) := by decide +kernel
theorem dX4_widen_32 : decode cX4_widen 32 = .ok (.getfield 21, 3) := by decide +kernel
theorem dX4_widen_35 : decode cX4_widen 35 = .ok (.iload_n 2, 1) := by decide +kernel
theorem dX4_widen_36 : decode cX4_widen 36 = .ok (.iaload, 1) := by decide +kernel
theorem dX4_widen_37 : decode cX4_widen 37 = .ok (.iadd, 1) := by decide +kernel
theorem dX4_widen_38 : decode cX4_widen 38 = .ok (.istore_n 3, 1) := by decide +kernel
theorem dX4_widen_39 : decode cX4_widen 39 = .ok (.iload_n 3, 1) := by decide +kernel
theorem dX4_widen_40 : decode cX4_widen 40 = .ok (.aload_n 0, 1) := by decide +kernel
theorem dX4_widen_41 : decode cX4_widen 41 = .ok (.getfield 24, 3) := by decide +kernel
theorem dX4_widen_44 : decode cX4_widen 44 = .ok (.iload_n 2, 1) := by decide +kernel
theorem dX4_widen_45 : decode cX4_widen 45 = .ok (.iaload, 1) := by decide +kernel
theorem dX4_widen_46 : decode cX4_widen 46 = .ok (.iadd, 1) := by decide +kernel
theorem dX4_widen_47 : decode cX4_widen 47 = .ok (.istore 4, 2) := by decide +kernel
theorem dX4_widen_49 : decode cX4_widen 49 = .ok (.aload_n 0, 1) := by decide +kernel
theorem dX4_widen_50 : decode cX4_widen 50 = .ok (.getfield 21, 3) := by decide +kernel
theorem dX4_widen_53 : decode cX4_widen 53 = .ok (.iload_n 2, 1) := by decide +kernel
theorem dX4_widen_54 : decode cX4_widen 54 = .ok (.iaload, 1) := by decide +kernel
theorem dX4_widen_55 : decode cX4_widen 55 = .ok (.iconst 2, 1) := by decide +kernel
theorem dX4_widen_56 : decode cX4_widen 56 = .ok (.if_icmp .ne 26, 3) := by decide +kernel
theorem dX4_widen_59 : decode cX4_widen 59 = .ok (.aload_n 0, 1) := by decide +kernel
theorem dX4_widen_60 : decode cX4_widen 60 = .ok (.aload_n 0, 1) := by decide +kernel
theorem dX4_widen_61 : decode cX4_widen 61 = .ok (.iload_n 2, 1) := by decide +kernel
theorem dX4_widen_62 : decode cX4_widen 62 = .ok (.invokevirtual 108, 3) := by decide +kernel
theorem dX4_widen_65 : decode cX4_widen 65 = .ok (.iload_n 3, 1) := by decide +kernel
theorem dX4_widen_66 : decode cX4_widen 66 = .ok (.invokevirtual 111, 3) := by decide +kernel
theorem dX4_widen_69 : decode cX4_widen 69 = .ok (.ifCond .eq 13, 3) := by decide +kernel
theorem dX4_widen_72 : decode cX4_widen 72 = .ok (.aload_n 0, 1) := by decide +kernel
theorem dX4_widen_73 : decode cX4_widen 73 = .ok (.getfield 21, 3) := by decide +kernel
theorem dX4_widen_76 : decode cX4_widen 76 = .ok (.iload_n 2, 1) := by decide +kernel
theorem dX4_widen_77 : decode cX4_widen 77 = .ok (.bipush 6, 2) := by decide +kernel
theorem dX4_widen_79 : decode cX4_widen 79 = .ok (.iastore, 1) := by decide +kernel
theorem dX4_widen_80 : decode cX4_widen 80 = .ok (.iconst 1, 1) := by decide +kernel
theorem dX4_widen_81 : decode cX4_widen 81 = .ok (.istore_n 1, 1) := by decide +kernel
theorem dX4_widen_82 : decode cX4_widen 82 = .ok (.aload_n 0, 1) := by decide +kernel
theorem dX4_widen_83 : decode cX4_widen 83 = .ok (.getfield 24, 3) := by decide +kernel
theorem dX4_widen_86 : decode cX4_widen 86 = .ok (.iload_n 2, 1) := by decide +kernel
theorem dX4_widen_87 : decode cX4_widen 87 = .ok (.iaload, 1) := by decide +kernel
theorem dX4_widen_88 : decode cX4_widen 88 = .ok (.iconst 2, 1) := by decide +kernel
theorem dX4_widen_89 : decode cX4_widen 89 = .ok (.if_icmp .ne 26, 3) := by decide +kernel
theorem dX4_widen_92 : decode cX4_widen 92 = .ok (.aload_n 0, 1) := by decide +kernel
theorem dX4_widen_93 : decode cX4_widen 93 = .ok (.aload_n 0, 1) := by decide +kernel
theorem dX4_widen_94 : decode cX4_widen 94 = .ok (.iload_n 2, 1) := by decide +kernel
theorem dX4_widen_95 : decode cX4_widen 95 = .ok (.invokevirtual 115, 3) := by decide +kernel
theorem dX4_widen_98 : decode cX4_widen 98 = .ok (.iload 4, 2) := by decide +kernel
theorem dX4_widen_100 : decode cX4_widen 100 = .ok (.invokevirtual 111, 3) := by decide +kernel
theorem dX4_widen_103 : decode cX4_widen 103 = .ok (.ifCond .eq 12, 3) := by decide +kernel
theorem dX4_widen_106 : decode cX4_widen 106 = .ok (.aload_n 0, 1) := by decide +kernel
theorem dX4_widen_107 : decode cX4_widen 107 = .ok (.getfield 24, 3) := by decide +kernel
theorem dX4_widen_110 : decode cX4_widen 110 = .ok (.iload_n 2, 1) := by decide +kernel
theorem dX4_widen_111 : decode cX4_widen 111 = .ok (.iconst 5, 1) := by decide +kernel
theorem dX4_widen_112 : decode cX4_widen 112 = .ok (.iastore, 1) := by decide +kernel
theorem dX4_widen_113 : decode cX4_widen 113 = .ok (.iconst 1, 1) := by decide +kernel
theorem dX4_widen_114 : decode cX4_widen 114 = .ok (.istore_n 1, 1) := by decide +kernel
theorem dX4_widen_115 : decode cX4_widen 115 = .ok (.iinc 2 1, 3) := by decide +kernel
theorem dX4_widen_118 : decode cX4_widen 118 = .ok (.goto (-114), 3) := by decide +kernel
theorem dX4_widen_121 : decode cX4_widen 121 = .ok (.iload_n 1, 1) := by decide +kernel
theorem dX4_widen_122 : decode cX4_widen 122 = .ok (.ireturn, 1) := by decide +kernel
theorem dX4_branchTarget_0 : decode cX4_branchTarget 0 = .ok (.aload_n 0, 1) := by decide +kernel
theorem dX4_branchTarget_1 : decode cX4_branchTarget 1 = .ok (.getfield 18, 3) := by decide +kernel
theorem dX4_branchTarget_4 : decode cX4_branchTarget 4 = .ok (.iload_n 1, 1) := by decide +kernel
theorem dX4_branchTarget_5 : decode cX4_branchTarget 5 = .ok (.iaload, 1) := by decide +kernel
theorem dX4_branchTarget_6 : decode cX4_branchTarget 6 = .ok (.iconst 3, 1) := by decide +kernel
theorem dX4_branchTarget_7 : decode cX4_branchTarget 7 = .ok (.if_icmp .ne 15, 3) := by decide +kernel
theorem dX4_branchTarget_10 : decode cX4_branchTarget 10 = .ok (.aload_n 0, 1) := by decide +kernel
theorem dX4_branchTarget_11 : decode cX4_branchTarget 11 = .ok (.getfield 33, 3) := by decide +kernel
theorem dX4_branchTarget_14 : decode cX4_branchTarget 14 = .ok (.getfield 83, 3) := by decide +kernel
theorem dX4_branchTarget_17 : decode cX4_branchTarget 17 = .ok (.iload_n 1, 1) := by decide +kernel
theorem dX4_branchTarget_18 : decode cX4_branchTarget 18 = .ok (.iaload, 1) := by decide +kernel
theorem dX4_branchTarget_19 : decode cX4_branchTarget 19 = .ok (.goto 12, 3) := by decide +kernel
theorem dX4_branchTarget_22 : decode cX4_branchTarget 22 = .ok (.aload_n 0, 1) := by decide +kernel
theorem dX4_branchTarget_23 : decode cX4_branchTarget 23 = .ok (.getfield 33, 3) := by decide +kernel
theorem dX4_branchTarget_26 : decode cX4_branchTarget 26 = .ok (.getfield 80, 3) := by decide +kernel
theorem dX4_branchTarget_29 : decode cX4_branchTarget 29 = .ok (.iload_n 1, 1) := by decide +kernel
theorem dX4_branchTarget_30 : decode cX4_branchTarget 30 = .ok (.iaload, 1) := by decide +kernel
theorem dX4_branchTarget_31 : decode cX4_branchTarget 31 = .ok (.ireturn, 1) := by decide +kernel
theorem dX4_jumpTarget_0 : decode cX4_jumpTarget 0 = .ok (.aload_n 0, 1) := by decide +kernel
theorem dX4_jumpTarget_1 : decode cX4_jumpTarget 1 = .ok (.getfield 18, 3) := by decide +kernel
theorem dX4_jumpTarget_4 : decode cX4_jumpTarget 4 = .ok (.iload_n 1, 1) := by decide +kernel
theorem dX4_jumpTarget_5 : decode cX4_jumpTarget 5 = .ok (.iaload, 1) := by decide +kernel
theorem dX4_jumpTarget_6 : decode cX4_jumpTarget 6 = .ok (.iconst 1, 1) := by decide +kernel
theorem dX4_jumpTarget_7 : decode cX4_jumpTarget 7 = .ok (.if_icmp .ne 15, 3) := by decide +kernel
theorem dX4_jumpTarget_10 : decode cX4_jumpTarget 10 = .ok (.aload_n 0, 1) := by decide +kernel
theorem dX4_jumpTarget_11 : decode cX4_jumpTarget 11 = .ok (.getfield 33, 3) := by decide +kernel
theorem dX4_jumpTarget_14 : decode cX4_jumpTarget 14 = .ok (.getfield 80, 3) := by decide +kernel
theorem dX4_jumpTarget_17 : decode cX4_jumpTarget 17 = .ok (.iload_n 1, 1) := by decide +kernel
theorem dX4_jumpTarget_18 : decode cX4_jumpTarget 18 = .ok (.iaload, 1) := by decide +kernel
theorem dX4_jumpTarget_19 : decode cX4_jumpTarget 19 = .ok (.goto 12, 3) := by decide +kernel
theorem dX4_jumpTarget_22 : decode cX4_jumpTarget 22 = .ok (.aload_n 0, 1) := by decide +kernel
theorem dX4_jumpTarget_23 : decode cX4_jumpTarget 23 = .ok (.getfield 33, 3) := by decide +kernel
theorem dX4_jumpTarget_26 : decode cX4_jumpTarget 26 = .ok (.getfield 83, 3) := by decide +kernel
theorem dX4_jumpTarget_29 : decode cX4_jumpTarget 29 = .ok (.iload_n 1, 1) := by decide +kernel
theorem dX4_jumpTarget_30 : decode cX4_jumpTarget 30 = .ok (.iaload, 1) := by decide +kernel
theorem dX4_jumpTarget_31 : decode cX4_jumpTarget 31 = .ok (.ireturn, 1) := by decide +kernel
theorem dX4_isFar_0 : decode cX4_isFar 0 = .ok (.aload_n 0, 1) := by decide +kernel
theorem dX4_isFar_1 : decode cX4_isFar 1 = .ok (.getfield 33, 3) := by decide +kernel
theorem dX4_isFar_4 : decode cX4_isFar 4 = .ok (.iload_n 1, 1) := by decide +kernel
theorem dX4_isFar_5 : decode cX4_isFar 5 = .ok (.invokevirtual 118, 3) := by decide +kernel
theorem dX4_isFar_8 : decode cX4_isFar 8 = .ok (.ifCond .ne 5, 3) := by decide +kernel
theorem dX4_isFar_11 : decode cX4_isFar 11 = .ok (.iconst 0, 1) := by decide +kernel
theorem dX4_isFar_12 : decode cX4_isFar 12 = .ok (.ireturn, 1) := by decide +kernel
theorem dX4_isFar_13 : decode cX4_isFar 13 = .ok (.aload_n 0, 1) := by decide +kernel
theorem dX4_isFar_14 : decode cX4_isFar 14 = .ok (.getfield 27, 3) := by decide +kernel
theorem dX4_isFar_17 : decode cX4_isFar 17 = .ok (.iload_n 1, 1) := by decide +kernel
theorem dX4_isFar_18 : decode cX4_isFar 18 = .ok (.iaload, 1) := by decide +kernel
theorem dX4_isFar_19 : decode cX4_isFar 19 = .ok (.iload_n 2, 1) := by decide +kernel
theorem dX4_isFar_20 : decode cX4_isFar 20 = .ok (.isub, 1) := by decide +kernel
theorem dX4_isFar_21 : decode cX4_isFar 21 = .ok (.istore_n 3, 1) := by decide +kernel
theorem dX4_isFar_22 : decode cX4_isFar 22 = .ok (.iload_n 3, 1) := by decide +kernel
theorem dX4_isFar_23 : decode cX4_isFar 23 = .ok (.bipush (-128), 2) := by decide +kernel
theorem dX4_isFar_25 : decode cX4_isFar 25 = .ok (.if_icmp .lt 9, 3) := by decide +kernel
theorem dX4_isFar_28 : decode cX4_isFar 28 = .ok (.iload_n 3, 1) := by decide +kernel
theorem dX4_isFar_29 : decode cX4_isFar 29 = .ok (.bipush 127, 2) := by decide +kernel
theorem dX4_isFar_31 : decode cX4_isFar 31 = .ok (.if_icmp .le 7, 3) := by decide +kernel
theorem dX4_isFar_34 : decode cX4_isFar 34 = .ok (.iconst 1, 1) := by decide +kernel
theorem dX4_isFar_35 : decode cX4_isFar 35 = .ok (.goto 4, 3) := by decide +kernel
theorem dX4_isFar_38 : decode cX4_isFar 38 = .ok (.iconst 0, 1) := by decide +kernel
theorem dX4_isFar_39 : decode cX4_isFar 39 = .ok (.ireturn, 1) := by decide +kernel
theorem dX4_bytesOfEnd_0 : decode cX4_bytesOfEnd 0 = .ok (.aload_n 0, 1) := by decide +kernel
theorem dX4_bytesOfEnd_1 : decode cX4_bytesOfEnd 1 = .ok (.getfield 18, 3) := by decide +kernel
theorem dX4_bytesOfEnd_4 : decode cX4_bytesOfEnd 4 = .ok (.iload_n 1, 1) := by decide +kernel
theorem dX4_bytesOfEnd_5 : decode cX4_bytesOfEnd 5 = .ok (.iaload, 1) := by decide +kernel
theorem dX4_bytesOfEnd_6 : decode cX4_bytesOfEnd 6 = .ok (.iconst 5, 1) := by decide +kernel
theorem dX4_bytesOfEnd_7 : decode cX4_bytesOfEnd 7 = .ok (.if_icmp .ne 5, 3) := by decide +kernel
theorem dX4_bytesOfEnd_10 : decode cX4_bytesOfEnd 10 = .ok (.iconst 1, 1) := by decide +kernel
theorem dX4_bytesOfEnd_11 : decode cX4_bytesOfEnd 11 = .ok (.ireturn, 1) := by decide +kernel
theorem dX4_bytesOfEnd_12 : decode cX4_bytesOfEnd 12 = .ok (.aload_n 0, 1) := by decide +kernel
theorem dX4_bytesOfEnd_13 : decode cX4_bytesOfEnd 13 = .ok (.getfield 21, 3) := by decide +kernel
theorem dX4_bytesOfEnd_16 : decode cX4_bytesOfEnd 16 = .ok (.iload_n 1, 1) := by decide +kernel
theorem dX4_bytesOfEnd_17 : decode cX4_bytesOfEnd 17 = .ok (.iaload, 1) := by decide +kernel
theorem dX4_bytesOfEnd_18 : decode cX4_bytesOfEnd 18 = .ok (.aload_n 0, 1) := by decide +kernel
theorem dX4_bytesOfEnd_19 : decode cX4_bytesOfEnd 19 = .ok (.getfield 24, 3) := by decide +kernel
theorem dX4_bytesOfEnd_22 : decode cX4_bytesOfEnd 22 = .ok (.iload_n 1, 1) := by decide +kernel
theorem dX4_bytesOfEnd_23 : decode cX4_bytesOfEnd 23 = .ok (.iaload, 1) := by decide +kernel
theorem dX4_bytesOfEnd_24 : decode cX4_bytesOfEnd 24 = .ok (.iadd, 1) := by decide +kernel
theorem dX4_bytesOfEnd_25 : decode cX4_bytesOfEnd 25 = .ok (.ireturn, 1) := by decide +kernel
theorem dX4_isBranchLong_0 : decode cX4_isBranchLong 0 = .ok (.aload_n 0, 1) := by decide +kernel
theorem dX4_isBranchLong_1 : decode cX4_isBranchLong 1 = .ok (.getfield 21, 3) := by decide +kernel
theorem dX4_isBranchLong_4 : decode cX4_isBranchLong 4 = .ok (.iload_n 1, 1) := by decide +kernel
theorem dX4_isBranchLong_5 : decode cX4_isBranchLong 5 = .ok (.iaload, 1) := by decide +kernel
theorem dX4_isBranchLong_6 : decode cX4_isBranchLong 6 = .ok (.bipush 6, 2) := by decide +kernel
theorem dX4_isBranchLong_8 : decode cX4_isBranchLong 8 = .ok (.if_icmp .ne 7, 3) := by decide +kernel
theorem dX4_isBranchLong_11 : decode cX4_isBranchLong 11 = .ok (.iconst 1, 1) := by decide +kernel
theorem dX4_isBranchLong_12 : decode cX4_isBranchLong 12 = .ok (.goto 4, 3) := by decide +kernel
theorem dX4_isBranchLong_15 : decode cX4_isBranchLong 15 = .ok (.iconst 0, 1) := by decide +kernel
theorem dX4_isBranchLong_16 : decode cX4_isBranchLong 16 = .ok (.ireturn, 1) := by decide +kernel
theorem dX4_isJumpLong_0 : decode cX4_isJumpLong 0 = .ok (.aload_n 0, 1) := by decide +kernel
theorem dX4_isJumpLong_1 : decode cX4_isJumpLong 1 = .ok (.getfield 24, 3) := by decide +kernel
theorem dX4_isJumpLong_4 : decode cX4_isJumpLong 4 = .ok (.iload_n 1, 1) := by decide +kernel
theorem dX4_isJumpLong_5 : decode cX4_isJumpLong 5 = .ok (.iaload, 1) := by decide +kernel
theorem dX4_isJumpLong_6 : decode cX4_isJumpLong 6 = .ok (.iconst 5, 1) := by decide +kernel
theorem dX4_isJumpLong_7 : decode cX4_isJumpLong 7 = .ok (.if_icmp .ne 7, 3) := by decide +kernel
theorem dX4_isJumpLong_10 : decode cX4_isJumpLong 10 = .ok (.iconst 1, 1) := by decide +kernel
theorem dX4_isJumpLong_11 : decode cX4_isJumpLong 11 = .ok (.goto 4, 3) := by decide +kernel
theorem dX4_isJumpLong_14 : decode cX4_isJumpLong 14 = .ok (.iconst 0, 1) := by decide +kernel
theorem dX4_isJumpLong_15 : decode cX4_isJumpLong 15 = .ok (.ireturn, 1) := by decide +kernel
theorem dX4_sumOfPadding_0 : decode cX4_sumOfPadding 0 = .ok (.iconst 0, 1) := by decide +kernel
theorem dX4_sumOfPadding_1 : decode cX4_sumOfPadding 1 = .ok (.istore_n 1, 1) := by decide +kernel
theorem dX4_sumOfPadding_2 : decode cX4_sumOfPadding 2 = .ok (.iconst 0, 1) := by decide +kernel
theorem dX4_sumOfPadding_3 : decode cX4_sumOfPadding 3 = .ok (.istore_n 2, 1) := by decide +kernel
theorem dX4_sumOfPadding_4 : decode cX4_sumOfPadding 4 = .ok (.iload_n 2, 1) := by decide +kernel
theorem dX4_sumOfPadding_5 : decode cX4_sumOfPadding 5 = .ok (.aload_n 0, 1) := by decide +kernel
theorem dX4_sumOfPadding_6 : decode cX4_sumOfPadding 6 = .ok (.getfield 33, 3) := by decide +kernel
theorem dX4_sumOfPadding_9 : decode cX4_sumOfPadding 9 = .ok (.getfield 52, 3) := by decide +kernel
theorem dX4_sumOfPadding_12 : decode cX4_sumOfPadding 12 = .ok (.if_icmp .ge 18, 3) := by decide +kernel
theorem dX4_sumOfPadding_15 : decode cX4_sumOfPadding 15 = .ok (.iload_n 1, 1) := by decide +kernel
theorem dX4_sumOfPadding_16 : decode cX4_sumOfPadding 16 = .ok (.aload_n 0, 1) := by decide +kernel
theorem dX4_sumOfPadding_17 : decode cX4_sumOfPadding 17 = .ok (.getfield 30, 3) := by decide +kernel
theorem dX4_sumOfPadding_20 : decode cX4_sumOfPadding 20 = .ok (.iload_n 2, 1) := by decide +kernel
theorem dX4_sumOfPadding_21 : decode cX4_sumOfPadding 21 = .ok (.iaload, 1) := by decide +kernel
theorem dX4_sumOfPadding_22 : decode cX4_sumOfPadding 22 = .ok (.iadd, 1) := by decide +kernel
theorem dX4_sumOfPadding_23 : decode cX4_sumOfPadding 23 = .ok (.istore_n 1, 1) := by decide +kernel
theorem dX4_sumOfPadding_24 : decode cX4_sumOfPadding 24 = .ok (.iinc 2 1, 3) := by decide +kernel
theorem dX4_sumOfPadding_27 : decode cX4_sumOfPadding 27 = .ok (.goto (-23), 3) := by decide +kernel
theorem dX4_sumOfPadding_30 : decode cX4_sumOfPadding 30 = .ok (.iload_n 1, 1) := by decide +kernel
theorem dX4_sumOfPadding_31 : decode cX4_sumOfPadding 31 = .ok (.ireturn, 1) := by decide +kernel
theorem dX4_countOfLong_0 : decode cX4_countOfLong 0 = .ok (.iconst 0, 1) := by decide +kernel
theorem dX4_countOfLong_1 : decode cX4_countOfLong 1 = .ok (.istore_n 1, 1) := by decide +kernel
theorem dX4_countOfLong_2 : decode cX4_countOfLong 2 = .ok (.iconst 0, 1) := by decide +kernel
theorem dX4_countOfLong_3 : decode cX4_countOfLong 3 = .ok (.istore_n 2, 1) := by decide +kernel
theorem dX4_countOfLong_4 : decode cX4_countOfLong 4 = .ok (.iload_n 2, 1) := by decide +kernel
theorem dX4_countOfLong_5 : decode cX4_countOfLong 5 = .ok (.aload_n 0, 1) := by decide +kernel
theorem dX4_countOfLong_6 : decode cX4_countOfLong 6 = .ok (.getfield 33, 3) := by decide +kernel
theorem dX4_countOfLong_9 : decode cX4_countOfLong 9 = .ok (.getfield 52, 3) := by decide +kernel
theorem dX4_countOfLong_12 : decode cX4_countOfLong 12 = .ok (.if_icmp .ge 41, 3) := by decide +kernel
theorem dX4_countOfLong_15 : decode cX4_countOfLong 15 = .ok (.iload_n 1, 1) := by decide +kernel
theorem dX4_countOfLong_16 : decode cX4_countOfLong 16 = .ok (.aload_n 0, 1) := by decide +kernel
theorem dX4_countOfLong_17 : decode cX4_countOfLong 17 = .ok (.iload_n 2, 1) := by decide +kernel
theorem dX4_countOfLong_18 : decode cX4_countOfLong 18 = .ok (.invokevirtual 121, 3) := by decide +kernel
theorem dX4_countOfLong_21 : decode cX4_countOfLong 21 = .ok (.ifCond .eq 7, 3) := by decide +kernel
theorem dX4_countOfLong_24 : decode cX4_countOfLong 24 = .ok (.iconst 1, 1) := by decide +kernel
theorem dX4_countOfLong_25 : decode cX4_countOfLong 25 = .ok (.goto 4, 3) := by decide +kernel
theorem dX4_countOfLong_28 : decode cX4_countOfLong 28 = .ok (.iconst 0, 1) := by decide +kernel
theorem dX4_countOfLong_29 : decode cX4_countOfLong 29 = .ok (.iadd, 1) := by decide +kernel
theorem dX4_countOfLong_30 : decode cX4_countOfLong 30 = .ok (.istore_n 1, 1) := by decide +kernel
theorem dX4_countOfLong_31 : decode cX4_countOfLong 31 = .ok (.iload_n 1, 1) := by decide +kernel
theorem dX4_countOfLong_32 : decode cX4_countOfLong 32 = .ok (.aload_n 0, 1) := by decide +kernel
theorem dX4_countOfLong_33 : decode cX4_countOfLong 33 = .ok (.iload_n 2, 1) := by decide +kernel
theorem dX4_countOfLong_34 : decode cX4_countOfLong 34 = .ok (.invokevirtual 124, 3) := by decide +kernel
theorem dX4_countOfLong_37 : decode cX4_countOfLong 37 = .ok (.ifCond .eq 7, 3) := by decide +kernel
theorem dX4_countOfLong_40 : decode cX4_countOfLong 40 = .ok (.iconst 1, 1) := by decide +kernel
theorem dX4_countOfLong_41 : decode cX4_countOfLong 41 = .ok (.goto 4, 3) := by decide +kernel
theorem dX4_countOfLong_44 : decode cX4_countOfLong 44 = .ok (.iconst 0, 1) := by decide +kernel
theorem dX4_countOfLong_45 : decode cX4_countOfLong 45 = .ok (.iadd, 1) := by decide +kernel
theorem dX4_countOfLong_46 : decode cX4_countOfLong 46 = .ok (.istore_n 1, 1) := by decide +kernel
theorem dX4_countOfLong_47 : decode cX4_countOfLong 47 = .ok (.iinc 2 1, 3) := by decide +kernel
theorem dX4_countOfLong_50 : decode cX4_countOfLong 50 = .ok (.goto (-46), 3) := by decide +kernel
theorem dX4_countOfLong_53 : decode cX4_countOfLong 53 = .ok (.iload_n 1, 1) := by decide +kernel
theorem dX4_countOfLong_54 : decode cX4_countOfLong 54 = .ok (.ireturn, 1) := by decide +kernel
theorem dX4_countOfForm_0 : decode cX4_countOfForm 0 = .ok (.iconst 0, 1) := by decide +kernel
theorem dX4_countOfForm_1 : decode cX4_countOfForm 1 = .ok (.istore_n 2, 1) := by decide +kernel
theorem dX4_countOfForm_2 : decode cX4_countOfForm 2 = .ok (.iconst 0, 1) := by decide +kernel
theorem dX4_countOfForm_3 : decode cX4_countOfForm 3 = .ok (.istore_n 3, 1) := by decide +kernel
theorem dX4_countOfForm_4 : decode cX4_countOfForm 4 = .ok (.iload_n 3, 1) := by decide +kernel
theorem dX4_countOfForm_5 : decode cX4_countOfForm 5 = .ok (.aload_n 0, 1) := by decide +kernel
theorem dX4_countOfForm_6 : decode cX4_countOfForm 6 = .ok (.getfield 33, 3) := by decide +kernel
theorem dX4_countOfForm_9 : decode cX4_countOfForm 9 = .ok (.getfield 52, 3) := by decide +kernel
theorem dX4_countOfForm_12 : decode cX4_countOfForm 12 = .ok (.if_icmp .ge 27, 3) := by decide +kernel
theorem dX4_countOfForm_15 : decode cX4_countOfForm 15 = .ok (.iload_n 2, 1) := by decide +kernel
theorem dX4_countOfForm_16 : decode cX4_countOfForm 16 = .ok (.aload_n 0, 1) := by decide +kernel
theorem dX4_countOfForm_17 : decode cX4_countOfForm 17 = .ok (.getfield 18, 3) := by decide +kernel
theorem dX4_countOfForm_20 : decode cX4_countOfForm 20 = .ok (.iload_n 3, 1) := by decide +kernel
theorem dX4_countOfForm_21 : decode cX4_countOfForm 21 = .ok (.iaload, 1) := by decide +kernel
theorem dX4_countOfForm_22 : decode cX4_countOfForm 22 = .ok (.iload_n 1, 1) := by decide +kernel
theorem dX4_countOfForm_23 : decode cX4_countOfForm 23 = .ok (.if_icmp .ne 7, 3) := by decide +kernel
theorem dX4_countOfForm_26 : decode cX4_countOfForm 26 = .ok (.iconst 1, 1) := by decide +kernel
theorem dX4_countOfForm_27 : decode cX4_countOfForm 27 = .ok (.goto 4, 3) := by decide +kernel
theorem dX4_countOfForm_30 : decode cX4_countOfForm 30 = .ok (.iconst 0, 1) := by decide +kernel
theorem dX4_countOfForm_31 : decode cX4_countOfForm 31 = .ok (.iadd, 1) := by decide +kernel
theorem dX4_countOfForm_32 : decode cX4_countOfForm 32 = .ok (.istore_n 2, 1) := by decide +kernel
theorem dX4_countOfForm_33 : decode cX4_countOfForm 33 = .ok (.iinc 3 1, 3) := by decide +kernel
theorem dX4_countOfForm_36 : decode cX4_countOfForm 36 = .ok (.goto (-32), 3) := by decide +kernel
theorem dX4_countOfForm_39 : decode cX4_countOfForm 39 = .ok (.iload_n 2, 1) := by decide +kernel
theorem dX4_countOfForm_40 : decode cX4_countOfForm 40 = .ok (.ireturn, 1) := by decide +kernel
theorem dX4_sumOfCosts_0 : decode cX4_sumOfCosts 0 = .ok (.iconst 0, 1) := by decide +kernel
theorem dX4_sumOfCosts_1 : decode cX4_sumOfCosts 1 = .ok (.istore_n 2, 1) := by decide +kernel
theorem dX4_sumOfCosts_2 : decode cX4_sumOfCosts 2 = .ok (.iconst 0, 1) := by decide +kernel
theorem dX4_sumOfCosts_3 : decode cX4_sumOfCosts 3 = .ok (.istore_n 3, 1) := by decide +kernel
theorem dX4_sumOfCosts_4 : decode cX4_sumOfCosts 4 = .ok (.iload_n 3, 1) := by decide +kernel
theorem dX4_sumOfCosts_5 : decode cX4_sumOfCosts 5 = .ok (.aload_n 0, 1) := by decide +kernel
theorem dX4_sumOfCosts_6 : decode cX4_sumOfCosts 6 = .ok (.getfield 33, 3) := by decide +kernel
theorem dX4_sumOfCosts_9 : decode cX4_sumOfCosts 9 = .ok (.getfield 52, 3) := by decide +kernel
theorem dX4_sumOfCosts_12 : decode cX4_sumOfCosts 12 = .ok (.if_icmp .ge 36, 3) := by decide +kernel
theorem dX4_sumOfCosts_15 : decode cX4_sumOfCosts 15 = .ok (.aload_n 0, 1) := by decide +kernel
theorem dX4_sumOfCosts_16 : decode cX4_sumOfCosts 16 = .ok (.getfield 9, 3) := by decide +kernel
theorem dX4_sumOfCosts_19 : decode cX4_sumOfCosts 19 = .ok (.iload_n 3, 1) := by decide +kernel
theorem dX4_sumOfCosts_20 : decode cX4_sumOfCosts 20 = .ok (.iaload, 1) := by decide +kernel
theorem dX4_sumOfCosts_21 : decode cX4_sumOfCosts 21 = .ok (.iload_n 1, 1) := by decide +kernel
theorem dX4_sumOfCosts_22 : decode cX4_sumOfCosts 22 = .ok (.if_icmp .ge 20, 3) := by decide +kernel
theorem dX4_sumOfCosts_25 : decode cX4_sumOfCosts 25 = .ok (.iload_n 2, 1) := by decide +kernel
theorem dX4_sumOfCosts_26 : decode cX4_sumOfCosts 26 = .ok (.aload_n 0, 1) := by decide +kernel
theorem dX4_sumOfCosts_27 : decode cX4_sumOfCosts 27 = .ok (.getfield 33, 3) := by decide +kernel
theorem dX4_sumOfCosts_30 : decode cX4_sumOfCosts 30 = .ok (.iload_n 3, 1) := by decide +kernel
theorem dX4_sumOfCosts_31 : decode cX4_sumOfCosts 31 = .ok (.aload_n 0, 1) := by decide +kernel
theorem dX4_sumOfCosts_32 : decode cX4_sumOfCosts 32 = .ok (.getfield 15, 3) := by decide +kernel
theorem dX4_sumOfCosts_35 : decode cX4_sumOfCosts 35 = .ok (.iload_n 3, 1) := by decide +kernel
theorem dX4_sumOfCosts_36 : decode cX4_sumOfCosts 36 = .ok (.iaload, 1) := by decide +kernel
theorem dX4_sumOfCosts_37 : decode cX4_sumOfCosts 37 = .ok (.invokevirtual 127, 3) := by decide +kernel
theorem dX4_sumOfCosts_40 : decode cX4_sumOfCosts 40 = .ok (.iadd, 1) := by decide +kernel
theorem dX4_sumOfCosts_41 : decode cX4_sumOfCosts 41 = .ok (.istore_n 2, 1) := by decide +kernel
theorem dX4_sumOfCosts_42 : decode cX4_sumOfCosts 42 = .ok (.iinc 3 1, 3) := by decide +kernel
theorem dX4_sumOfCosts_45 : decode cX4_sumOfCosts 45 = .ok (.goto (-41), 3) := by decide +kernel
theorem dX4_sumOfCosts_48 : decode cX4_sumOfCosts 48 = .ok (.iload_n 2, 1) := by decide +kernel
theorem dX4_sumOfCosts_49 : decode cX4_sumOfCosts 49 = .ok (.ireturn, 1) := by decide +kernel
theorem dX4_cyclesOfProfile_0 : decode cX4_cyclesOfProfile 0 = .ok (.aload_n 0, 1) := by decide +kernel
theorem dX4_cyclesOfProfile_1 : decode cX4_cyclesOfProfile 1 = .ok (.aload_n 0, 1) := by decide +kernel
theorem dX4_cyclesOfProfile_2 : decode cX4_cyclesOfProfile 2 = .ok (.getfield 33, 3) := by decide +kernel
theorem dX4_cyclesOfProfile_5 : decode cX4_cyclesOfProfile 5 = .ok (.getfield 52, 3) := by decide +kernel
theorem dX4_cyclesOfProfile_8 : decode cX4_cyclesOfProfile 8 = .ok (.invokevirtual 130, 3) := by decide +kernel
theorem dX4_cyclesOfProfile_11 : decode cX4_cyclesOfProfile 11 = .ok (.istore_n 1, 1) := by decide +kernel
theorem dX4_cyclesOfProfile_12 : decode cX4_cyclesOfProfile 12 = .ok (.iconst 0, 1) := by decide +kernel
theorem dX4_cyclesOfProfile_13 : decode cX4_cyclesOfProfile 13 = .ok (.istore_n 2, 1) := by decide +kernel
theorem dX4_cyclesOfProfile_14 : decode cX4_cyclesOfProfile 14 = .ok (.iload_n 2, 1) := by decide +kernel
theorem dX4_cyclesOfProfile_15 : decode cX4_cyclesOfProfile 15 = .ok (.aload_n 0, 1) := by decide +kernel
theorem dX4_cyclesOfProfile_16 : decode cX4_cyclesOfProfile 16 = .ok (.getfield 33, 3) := by decide +kernel
theorem dX4_cyclesOfProfile_19 : decode cX4_cyclesOfProfile 19 = .ok (.getfield 52, 3) := by decide +kernel
theorem dX4_cyclesOfProfile_22 : decode cX4_cyclesOfProfile 22 = .ok (.if_icmp .ge 34, 3) := by decide +kernel
theorem dX4_cyclesOfProfile_25 : decode cX4_cyclesOfProfile 25 = .ok (.aload_n 0, 1) := by decide +kernel
theorem dX4_cyclesOfProfile_26 : decode cX4_cyclesOfProfile 26 = .ok (.iload_n 2, 1) := by decide +kernel
theorem dX4_cyclesOfProfile_27 : decode cX4_cyclesOfProfile 27 = .ok (.invokevirtual 133, 3) := by decide +kernel
theorem dX4_cyclesOfProfile_30 : decode cX4_cyclesOfProfile 30 = .ok (.ifCond .eq 20, 3) := by decide +kernel
theorem dX4_cyclesOfProfile_33 : decode cX4_cyclesOfProfile 33 = .ok (.iload_n 1, 1) := by decide +kernel
theorem dX4_cyclesOfProfile_34 : decode cX4_cyclesOfProfile 34 = .ok (.aload_n 0, 1) := by decide +kernel
theorem dX4_cyclesOfProfile_35 : decode cX4_cyclesOfProfile 35 = .ok (.getfield 33, 3) := by decide +kernel
theorem dX4_cyclesOfProfile_38 : decode cX4_cyclesOfProfile 38 = .ok (.iload_n 2, 1) := by decide +kernel
theorem dX4_cyclesOfProfile_39 : decode cX4_cyclesOfProfile 39 = .ok (.aload_n 0, 1) := by decide +kernel
theorem dX4_cyclesOfProfile_40 : decode cX4_cyclesOfProfile 40 = .ok (.getfield 15, 3) := by decide +kernel
theorem dX4_cyclesOfProfile_43 : decode cX4_cyclesOfProfile 43 = .ok (.iload_n 2, 1) := by decide +kernel
theorem dX4_cyclesOfProfile_44 : decode cX4_cyclesOfProfile 44 = .ok (.iaload, 1) := by decide +kernel
theorem dX4_cyclesOfProfile_45 : decode cX4_cyclesOfProfile 45 = .ok (.invokevirtual 136, 3) := by decide +kernel
theorem dX4_cyclesOfProfile_48 : decode cX4_cyclesOfProfile 48 = .ok (.iadd, 1) := by decide +kernel
theorem dX4_cyclesOfProfile_49 : decode cX4_cyclesOfProfile 49 = .ok (.istore_n 1, 1) := by decide +kernel
theorem dX4_cyclesOfProfile_50 : decode cX4_cyclesOfProfile 50 = .ok (.iinc 2 1, 3) := by decide +kernel
theorem dX4_cyclesOfProfile_53 : decode cX4_cyclesOfProfile 53 = .ok (.goto (-39), 3) := by decide +kernel
theorem dX4_cyclesOfProfile_56 : decode cX4_cyclesOfProfile 56 = .ok (.iload_n 1, 1) := by decide +kernel
theorem dX4_cyclesOfProfile_57 : decode cX4_cyclesOfProfile 57 = .ok (.ireturn, 1) := by decide +kernel
theorem dX4_hasPaddedNext_0 : decode cX4_hasPaddedNext 0 = .ok (.aload_n 0, 1) := by decide +kernel
theorem dX4_hasPaddedNext_1 : decode cX4_hasPaddedNext 1 = .ok (.getfield 15, 3) := by decide +kernel
theorem dX4_hasPaddedNext_4 : decode cX4_hasPaddedNext 4 = .ok (.iload_n 1, 1) := by decide +kernel
theorem dX4_hasPaddedNext_5 : decode cX4_hasPaddedNext 5 = .ok (.iaload, 1) := by decide +kernel
theorem dX4_hasPaddedNext_6 : decode cX4_hasPaddedNext 6 = .ok (.iconst (-1), 1) := by decide +kernel
theorem dX4_hasPaddedNext_7 : decode cX4_hasPaddedNext 7 = .ok (.if_icmp .eq 21, 3) := by decide +kernel
theorem dX4_hasPaddedNext_10 : decode cX4_hasPaddedNext 10 = .ok (.aload_n 0, 1) := by decide +kernel
theorem dX4_hasPaddedNext_11 : decode cX4_hasPaddedNext 11 = .ok (.getfield 30, 3) := by decide +kernel
theorem dX4_hasPaddedNext_14 : decode cX4_hasPaddedNext 14 = .ok (.aload_n 0, 1) := by decide +kernel
theorem dX4_hasPaddedNext_15 : decode cX4_hasPaddedNext 15 = .ok (.getfield 15, 3) := by decide +kernel
theorem dX4_hasPaddedNext_18 : decode cX4_hasPaddedNext 18 = .ok (.iload_n 1, 1) := by decide +kernel
theorem dX4_hasPaddedNext_19 : decode cX4_hasPaddedNext 19 = .ok (.iaload, 1) := by decide +kernel
theorem dX4_hasPaddedNext_20 : decode cX4_hasPaddedNext 20 = .ok (.iaload, 1) := by decide +kernel
theorem dX4_hasPaddedNext_21 : decode cX4_hasPaddedNext 21 = .ok (.ifCond .le 7, 3) := by decide +kernel
theorem dX4_hasPaddedNext_24 : decode cX4_hasPaddedNext 24 = .ok (.iconst 1, 1) := by decide +kernel
theorem dX4_hasPaddedNext_25 : decode cX4_hasPaddedNext 25 = .ok (.goto 4, 3) := by decide +kernel
theorem dX4_hasPaddedNext_28 : decode cX4_hasPaddedNext 28 = .ok (.iconst 0, 1) := by decide +kernel
theorem dX4_hasPaddedNext_29 : decode cX4_hasPaddedNext 29 = .ok (.ireturn, 1) := by decide +kernel
theorem dX4_cyclesOfPath_0 : decode cX4_cyclesOfPath 0 = .ok (.iconst 0, 1) := by decide +kernel
theorem dX4_cyclesOfPath_1 : decode cX4_cyclesOfPath 1 = .ok (.istore_n 2, 1) := by decide +kernel
theorem dX4_cyclesOfPath_2 : decode cX4_cyclesOfPath 2 = .ok (.iconst 0, 1) := by decide +kernel
theorem dX4_cyclesOfPath_3 : decode cX4_cyclesOfPath 3 = .ok (.istore_n 3, 1) := by decide +kernel
theorem dX4_cyclesOfPath_4 : decode cX4_cyclesOfPath 4 = .ok (.iload_n 3, 1) := by decide +kernel
theorem dX4_cyclesOfPath_5 : decode cX4_cyclesOfPath 5 = .ok (.iconst 1, 1) := by decide +kernel
theorem dX4_cyclesOfPath_6 : decode cX4_cyclesOfPath 6 = .ok (.iadd, 1) := by decide +kernel
theorem dX4_cyclesOfPath_7 : decode cX4_cyclesOfPath 7 = .ok (.aload_n 1, 1) := by decide +kernel
theorem dX4_cyclesOfPath_8 : decode cX4_cyclesOfPath 8 = .ok (.getfield 139, 3) := by decide +kernel
theorem dX4_cyclesOfPath_11 : decode cX4_cyclesOfPath 11 = .ok (.if_icmp .ge 73, 3) := by decide +kernel
theorem dX4_cyclesOfPath_14 : decode cX4_cyclesOfPath 14 = .ok (.aload_n 1, 1) := by decide +kernel
theorem dX4_cyclesOfPath_15 : decode cX4_cyclesOfPath 15 = .ok (.getfield 144, 3) := by decide +kernel
theorem dX4_cyclesOfPath_18 : decode cX4_cyclesOfPath 18 = .ok (.iload_n 3, 1) := by decide +kernel
theorem dX4_cyclesOfPath_19 : decode cX4_cyclesOfPath 19 = .ok (.iaload, 1) := by decide +kernel
theorem dX4_cyclesOfPath_20 : decode cX4_cyclesOfPath 20 = .ok (.istore 4, 2) := by decide +kernel
theorem dX4_cyclesOfPath_22 : decode cX4_cyclesOfPath 22 = .ok (.aload_n 1, 1) := by decide +kernel
theorem dX4_cyclesOfPath_23 : decode cX4_cyclesOfPath 23 = .ok (.getfield 144, 3) := by decide +kernel
theorem dX4_cyclesOfPath_26 : decode cX4_cyclesOfPath 26 = .ok (.iload_n 3, 1) := by decide +kernel
theorem dX4_cyclesOfPath_27 : decode cX4_cyclesOfPath 27 = .ok (.iconst 1, 1) := by decide +kernel
theorem dX4_cyclesOfPath_28 : decode cX4_cyclesOfPath 28 = .ok (.iadd, 1) := by decide +kernel
theorem dX4_cyclesOfPath_29 : decode cX4_cyclesOfPath 29 = .ok (.iaload, 1) := by decide +kernel
theorem dX4_cyclesOfPath_30 : decode cX4_cyclesOfPath 30 = .ok (.istore 5, 2) := by decide +kernel
theorem dX4_cyclesOfPath_32 : decode cX4_cyclesOfPath 32 = .ok (.iload_n 2, 1) := by decide +kernel
theorem dX4_cyclesOfPath_33 : decode cX4_cyclesOfPath 33 = .ok (.aload_n 0, 1) := by decide +kernel
theorem dX4_cyclesOfPath_34 : decode cX4_cyclesOfPath 34 = .ok (.getfield 33, 3) := by decide +kernel
theorem dX4_cyclesOfPath_37 : decode cX4_cyclesOfPath 37 = .ok (.iload 4, 2) := by decide +kernel
theorem dX4_cyclesOfPath_39 : decode cX4_cyclesOfPath 39 = .ok (.iload 5, 2) := by decide +kernel
theorem dX4_cyclesOfPath_41 : decode cX4_cyclesOfPath 41 = .ok (.aload_n 0, 1) := by decide +kernel
theorem dX4_cyclesOfPath_42 : decode cX4_cyclesOfPath 42 = .ok (.getfield 15, 3) := by decide +kernel
theorem dX4_cyclesOfPath_45 : decode cX4_cyclesOfPath 45 = .ok (.iload 4, 2) := by decide +kernel
theorem dX4_cyclesOfPath_47 : decode cX4_cyclesOfPath 47 = .ok (.iaload, 1) := by decide +kernel
theorem dX4_cyclesOfPath_48 : decode cX4_cyclesOfPath 48 = .ok (.invokevirtual 147, 3) := by decide +kernel
theorem dX4_cyclesOfPath_51 : decode cX4_cyclesOfPath 51 = .ok (.iadd, 1) := by decide +kernel
theorem dX4_cyclesOfPath_52 : decode cX4_cyclesOfPath 52 = .ok (.istore_n 2, 1) := by decide +kernel
theorem dX4_cyclesOfPath_53 : decode cX4_cyclesOfPath 53 = .ok (.iload 5, 2) := by decide +kernel
theorem dX4_cyclesOfPath_55 : decode cX4_cyclesOfPath 55 = .ok (.aload_n 0, 1) := by decide +kernel
theorem dX4_cyclesOfPath_56 : decode cX4_cyclesOfPath 56 = .ok (.getfield 15, 3) := by decide +kernel
theorem dX4_cyclesOfPath_59 : decode cX4_cyclesOfPath 59 = .ok (.iload 4, 2) := by decide +kernel
theorem dX4_cyclesOfPath_61 : decode cX4_cyclesOfPath 61 = .ok (.iaload, 1) := by decide +kernel
theorem dX4_cyclesOfPath_62 : decode cX4_cyclesOfPath 62 = .ok (.if_icmp .ne 16, 3) := by decide +kernel
theorem dX4_cyclesOfPath_65 : decode cX4_cyclesOfPath 65 = .ok (.aload_n 0, 1) := by decide +kernel
theorem dX4_cyclesOfPath_66 : decode cX4_cyclesOfPath 66 = .ok (.getfield 30, 3) := by decide +kernel
theorem dX4_cyclesOfPath_69 : decode cX4_cyclesOfPath 69 = .ok (.iload 5, 2) := by decide +kernel
theorem dX4_cyclesOfPath_71 : decode cX4_cyclesOfPath 71 = .ok (.iaload, 1) := by decide +kernel
theorem dX4_cyclesOfPath_72 : decode cX4_cyclesOfPath 72 = .ok (.ifCond .le 6, 3) := by decide +kernel
theorem dX4_cyclesOfPath_75 : decode cX4_cyclesOfPath 75 = .ok (.iinc 2 1, 3) := by decide +kernel
theorem dX4_cyclesOfPath_78 : decode cX4_cyclesOfPath 78 = .ok (.iinc 3 1, 3) := by decide +kernel
theorem dX4_cyclesOfPath_81 : decode cX4_cyclesOfPath 81 = .ok (.goto (-77), 3) := by decide +kernel
theorem dX4_cyclesOfPath_84 : decode cX4_cyclesOfPath 84 = .ok (.iload_n 2, 1) := by decide +kernel
theorem dX4_cyclesOfPath_85 : decode cX4_cyclesOfPath 85 = .ok (.ireturn, 1) := by decide +kernel
theorem dX5_init_0 : decode cX5_init 0 = .ok (.aload_n 0, 1) := by decide +kernel
theorem dX5_init_1 : decode cX5_init 1 = .ok (.invokespecial 3, 3) := by decide +kernel
theorem dX5_init_4 : decode cX5_init 4 = .ok (.aload_n 0, 1) := by decide +kernel
theorem dX5_init_5 : decode cX5_init 5 = .ok (.bipush 16, 2) := by decide +kernel
theorem dX5_init_7 : decode cX5_init 7 = .ok (.newarray .int, 2) := by decide +kernel
theorem dX5_init_9 : decode cX5_init 9 = .ok (.putfield 9, 3) := by decide +kernel
theorem dX5_init_12 : decode cX5_init 12 = .ok (.aload_n 0, 1) := by decide +kernel
theorem dX5_init_13 : decode cX5_init 13 = .ok (.iconst 1, 1) := by decide +kernel
theorem dX5_init_14 : decode cX5_init 14 = .ok (.putfield 15, 3) := by decide +kernel
theorem dX5_init_17 : decode cX5_init 17 = .ok (.return_, 1) := by decide +kernel
theorem dX5_begin_0 : decode cX5_begin 0 = .ok (.iconst 0, 1) := by decide +kernel
theorem dX5_begin_1 : decode cX5_begin 1 = .ok (.istore_n 2, 1) := by decide +kernel
theorem dX5_begin_2 : decode cX5_begin 2 = .ok (.iload_n 2, 1) := by decide +kernel
theorem dX5_begin_3 : decode cX5_begin 3 = .ok (.bipush 16, 2) := by decide +kernel
theorem dX5_begin_5 : decode cX5_begin 5 = .ok (.if_icmp .ge 16, 3) := by decide +kernel
theorem dX5_begin_8 : decode cX5_begin 8 = .ok (.aload_n 0, 1) := by decide +kernel
theorem dX5_begin_9 : decode cX5_begin 9 = .ok (.getfield 9, 3) := by decide +kernel
theorem dX5_begin_12 : decode cX5_begin 12 = .ok (.iload_n 2, 1) := by decide +kernel
theorem dX5_begin_13 : decode cX5_begin 13 = .ok (.iload_n 2, 1) := by decide +kernel
theorem dX5_begin_14 : decode cX5_begin 14 = .ok (.iastore, 1) := by decide +kernel
theorem dX5_begin_15 : decode cX5_begin 15 = .ok (.iinc 2 1, 3) := by decide +kernel
theorem dX5_begin_18 : decode cX5_begin 18 = .ok (.goto (-16), 3) := by decide +kernel
theorem dX5_begin_21 : decode cX5_begin 21 = .ok (.aload_n 0, 1) := by decide +kernel
theorem dX5_begin_22 : decode cX5_begin 22 = .ok (.iload_n 1, 1) := by decide +kernel
theorem dX5_begin_23 : decode cX5_begin 23 = .ok (.putfield 19, 3) := by decide +kernel
theorem dX5_begin_26 : decode cX5_begin 26 = .ok (.return_, 1) := by decide +kernel
theorem dX6_init_0 : decode cX6_init 0 = .ok (.aload_n 0, 1) := by decide +kernel
theorem dX6_init_1 : decode cX6_init 1 = .ok (.invokespecial 3, 3) := by decide +kernel
theorem dX6_init_4 : decode cX6_init 4 = .ok (.aload_n 0, 1) := by decide +kernel
theorem dX6_init_5 : decode cX6_init 5 = .ok (.bipush 16, 2) := by decide +kernel
theorem dX6_init_7 : decode cX6_init 7 = .ok (.newarray .int, 2) := by decide +kernel
theorem dX6_init_9 : decode cX6_init 9 = .ok (.putfield 9, 3) := by decide +kernel
theorem dX6_init_12 : decode cX6_init 12 = .ok (.aload_n 0, 1) := by decide +kernel
theorem dX6_init_13 : decode cX6_init 13 = .ok (.bipush 16, 2) := by decide +kernel
theorem dX6_init_15 : decode cX6_init 15 = .ok (.newarray .int, 2) := by decide +kernel
theorem dX6_init_17 : decode cX6_init 17 = .ok (.putfield 15, 3) := by decide +kernel
theorem dX6_init_20 : decode cX6_init 20 = .ok (.aload_n 0, 1) := by decide +kernel
theorem dX6_init_21 : decode cX6_init 21 = .ok (.bipush 16, 2) := by decide +kernel
theorem dX6_init_23 : decode cX6_init 23 = .ok (.newarray .int, 2) := by decide +kernel
theorem dX6_init_25 : decode cX6_init 25 = .ok (.putfield 18, 3) := by decide +kernel
theorem dX6_init_28 : decode cX6_init 28 = .ok (.aload_n 0, 1) := by decide +kernel
theorem dX6_init_29 : decode cX6_init 29 = .ok (.bipush 16, 2) := by decide +kernel
theorem dX6_init_31 : decode cX6_init 31 = .ok (.newarray .int, 2) := by decide +kernel
theorem dX6_init_33 : decode cX6_init 33 = .ok (.putfield 21, 3) := by decide +kernel
theorem dX6_init_36 : decode cX6_init 36 = .ok (.aload_n 0, 1) := by decide +kernel
theorem dX6_init_37 : decode cX6_init 37 = .ok (.bipush 16, 2) := by decide +kernel
theorem dX6_init_39 : decode cX6_init 39 = .ok (.newarray .int, 2) := by decide +kernel
theorem dX6_init_41 : decode cX6_init 41 = .ok (.putfield 24, 3) := by decide +kernel
theorem dX6_init_44 : decode cX6_init 44 = .ok (.aload_n 0, 1) := by decide +kernel
theorem dX6_init_45 : decode cX6_init 45 = .ok (.bipush 16, 2) := by decide +kernel
theorem dX6_init_47 : decode cX6_init 47 = .ok (.newarray .int, 2) := by decide +kernel
theorem dX6_init_49 : decode cX6_init 49 = .ok (.putfield 27, 3) := by decide +kernel
theorem dX6_init_52 : decode cX6_init 52 = .ok (.aload_n 0, 1) := by decide +kernel
theorem dX6_init_53 : decode cX6_init 53 = .ok (.bipush 16, 2) := by decide +kernel
theorem dX6_init_55 : decode cX6_init 55 = .ok (.newarray .int, 2) := by decide +kernel
theorem dX6_init_57 : decode cX6_init 57 = .ok (.putfield 30, 3) := by decide +kernel
theorem dX6_init_60 : decode cX6_init 60 = .ok (.aload_n 0, 1) := by decide +kernel
theorem dX6_init_61 : decode cX6_init 61 = .ok (.bipush 16, 2) := by decide +kernel
theorem dX6_init_63 : decode cX6_init 63 = .ok (.newarray .int, 2) := by decide +kernel
theorem dX6_init_65 : decode cX6_init 65 = .ok (.putfield 33, 3) := by decide +kernel
theorem dX6_init_68 : decode cX6_init 68 = .ok (.return_, 1) := by decide +kernel
theorem dX6_begin_0 : decode cX6_begin 0 = .ok (.aload_n 0, 1) := by decide +kernel
theorem dX6_begin_1 : decode cX6_begin 1 = .ok (.iload_n 1, 1) := by decide +kernel
theorem dX6_begin_2 : decode cX6_begin 2 = .ok (.putfield 36, 3) := by decide +kernel
theorem dX6_begin_5 : decode cX6_begin 5 = .ok (.iconst 0, 1) := by decide +kernel
theorem dX6_begin_6 : decode cX6_begin 6 = .ok (.istore_n 2, 1) := by decide +kernel
theorem dX6_begin_7 : decode cX6_begin 7 = .ok (.iload_n 2, 1) := by decide +kernel
theorem dX6_begin_8 : decode cX6_begin 8 = .ok (.bipush 16, 2) := by decide +kernel
theorem dX6_begin_10 : decode cX6_begin 10 = .ok (.if_icmp .ge 44, 3) := by decide +kernel
theorem dX6_begin_13 : decode cX6_begin 13 = .ok (.aload_n 0, 1) := by decide +kernel
theorem dX6_begin_14 : decode cX6_begin 14 = .ok (.getfield 9, 3) := by decide +kernel
theorem dX6_begin_17 : decode cX6_begin 17 = .ok (.iload_n 2, 1) := by decide +kernel
theorem dX6_begin_18 : decode cX6_begin 18 = .ok (.iconst 0, 1) := by decide +kernel
theorem dX6_begin_19 : decode cX6_begin 19 = .ok (.iastore, 1) := by decide +kernel
theorem dX6_begin_20 : decode cX6_begin 20 = .ok (.aload_n 0, 1) := by decide +kernel
theorem dX6_begin_21 : decode cX6_begin 21 = .ok (.getfield 15, 3) := by decide +kernel
theorem dX6_begin_24 : decode cX6_begin 24 = .ok (.iload_n 2, 1) := by decide +kernel
theorem dX6_begin_25 : decode cX6_begin 25 = .ok (.iconst 2, 1) := by decide +kernel
theorem dX6_begin_26 : decode cX6_begin 26 = .ok (.iastore, 1) := by decide +kernel
theorem dX6_begin_27 : decode cX6_begin 27 = .ok (.aload_n 0, 1) := by decide +kernel
theorem dX6_begin_28 : decode cX6_begin 28 = .ok (.getfield 18, 3) := by decide +kernel
theorem dX6_begin_31 : decode cX6_begin 31 = .ok (.iload_n 2, 1) := by decide +kernel
theorem dX6_begin_32 : decode cX6_begin 32 = .ok (.iconst (-1), 1) := by decide +kernel
theorem dX6_begin_33 : decode cX6_begin 33 = .ok (.iastore, 1) := by decide +kernel
theorem dX6_begin_34 : decode cX6_begin 34 = .ok (.aload_n 0, 1) := by decide +kernel
theorem dX6_begin_35 : decode cX6_begin 35 = .ok (.getfield 21, 3) := by decide +kernel
theorem dX6_begin_38 : decode cX6_begin 38 = .ok (.iload_n 2, 1) := by decide +kernel
theorem dX6_begin_39 : decode cX6_begin 39 = .ok (.iconst (-1), 1) := by decide +kernel
theorem dX6_begin_40 : decode cX6_begin 40 = .ok (.iastore, 1) := by decide +kernel
theorem dX6_begin_41 : decode cX6_begin 41 = .ok (.aload_n 0, 1) := by decide +kernel
theorem dX6_begin_42 : decode cX6_begin 42 = .ok (.getfield 24, 3) := by decide +kernel
theorem dX6_begin_45 : decode cX6_begin 45 = .ok (.iload_n 2, 1) := by decide +kernel
theorem dX6_begin_46 : decode cX6_begin 46 = .ok (.iconst 0, 1) := by decide +kernel
theorem dX6_begin_47 : decode cX6_begin 47 = .ok (.iastore, 1) := by decide +kernel
theorem dX6_begin_48 : decode cX6_begin 48 = .ok (.iinc 2 1, 3) := by decide +kernel
theorem dX6_begin_51 : decode cX6_begin 51 = .ok (.goto (-44), 3) := by decide +kernel
theorem dX6_begin_54 : decode cX6_begin 54 = .ok (.aload_n 0, 1) := by decide +kernel
theorem dX6_begin_55 : decode cX6_begin 55 = .ok (.invokevirtual 40, 3) := by decide +kernel
theorem dX6_begin_58 : decode cX6_begin 58 = .ok (.aload_n 0, 1) := by decide +kernel
theorem dX6_begin_59 : decode cX6_begin 59 = .ok (.iconst 0, 1) := by decide +kernel
theorem dX6_begin_60 : decode cX6_begin 60 = .ok (.putfield 43, 3) := by decide +kernel
theorem dX6_begin_63 : decode cX6_begin 63 = .ok (.return_, 1) := by decide +kernel
theorem dX6_has_0 : decode cX6_has 0 = .ok (.iload_n 1, 1) := by decide +kernel
theorem dX6_has_1 : decode cX6_has 1 = .ok (.ifCond .lt 15, 3) := by decide +kernel
theorem dX6_has_4 : decode cX6_has 4 = .ok (.iload_n 1, 1) := by decide +kernel
theorem dX6_has_5 : decode cX6_has 5 = .ok (.aload_n 0, 1) := by decide +kernel
theorem dX6_has_6 : decode cX6_has 6 = .ok (.getfield 36, 3) := by decide +kernel
theorem dX6_has_9 : decode cX6_has 9 = .ok (.if_icmp .ge 7, 3) := by decide +kernel
theorem dX6_has_12 : decode cX6_has 12 = .ok (.iconst 1, 1) := by decide +kernel
theorem dX6_has_13 : decode cX6_has 13 = .ok (.goto 4, 3) := by decide +kernel
theorem dX6_has_16 : decode cX6_has 16 = .ok (.iconst 0, 1) := by decide +kernel
theorem dX6_has_17 : decode cX6_has 17 = .ok (.ireturn, 1) := by decide +kernel
theorem dX6_changeEnd_0 : decode cX6_changeEnd 0 = .ok (.aload_n 0, 1) := by decide +kernel
theorem dX6_changeEnd_1 : decode cX6_changeEnd 1 = .ok (.getfield 15, 3) := by decide +kernel
theorem dX6_changeEnd_4 : decode cX6_changeEnd 4 = .ok (.iload_n 1, 1) := by decide +kernel
theorem dX6_changeEnd_5 : decode cX6_changeEnd 5 = .ok (.iaload, 1) := by decide +kernel
theorem dX6_changeEnd_6 : decode cX6_changeEnd 6 = .ok (.istore 6, 2) := by decide +kernel
theorem dX6_changeEnd_8 : decode cX6_changeEnd 8 = .ok (.aload_n 0, 1) := by decide +kernel
theorem dX6_changeEnd_9 : decode cX6_changeEnd 9 = .ok (.getfield 15, 3) := by decide +kernel
theorem dX6_changeEnd_12 : decode cX6_changeEnd 12 = .ok (.iload_n 1, 1) := by decide +kernel
theorem dX6_changeEnd_13 : decode cX6_changeEnd 13 = .ok (.iload_n 2, 1) := by decide +kernel
theorem dX6_changeEnd_14 : decode cX6_changeEnd 14 = .ok (.iastore, 1) := by decide +kernel
theorem dX6_changeEnd_15 : decode cX6_changeEnd 15 = .ok (.aload_n 0, 1) := by decide +kernel
theorem dX6_changeEnd_16 : decode cX6_changeEnd 16 = .ok (.getfield 18, 3) := by decide +kernel
theorem dX6_changeEnd_19 : decode cX6_changeEnd 19 = .ok (.iload_n 1, 1) := by decide +kernel
theorem dX6_changeEnd_20 : decode cX6_changeEnd 20 = .ok (.iload_n 3, 1) := by decide +kernel
theorem dX6_changeEnd_21 : decode cX6_changeEnd 21 = .ok (.iastore, 1) := by decide +kernel
theorem dX6_changeEnd_22 : decode cX6_changeEnd 22 = .ok (.aload_n 0, 1) := by decide +kernel
theorem dX6_changeEnd_23 : decode cX6_changeEnd 23 = .ok (.getfield 21, 3) := by decide +kernel
theorem dX6_changeEnd_26 : decode cX6_changeEnd 26 = .ok (.iload_n 1, 1) := by decide +kernel
theorem dX6_changeEnd_27 : decode cX6_changeEnd 27 = .ok (.iload 4, 2) := by decide +kernel
theorem dX6_changeEnd_29 : decode cX6_changeEnd 29 = .ok (.iastore, 1) := by decide +kernel
theorem dX6_changeEnd_30 : decode cX6_changeEnd 30 = .ok (.aload_n 0, 1) := by decide +kernel
theorem dX6_changeEnd_31 : decode cX6_changeEnd 31 = .ok (.getfield 24, 3) := by decide +kernel
theorem dX6_changeEnd_34 : decode cX6_changeEnd 34 = .ok (.iload_n 1, 1) := by decide +kernel
theorem dX6_changeEnd_35 : decode cX6_changeEnd 35 = .ok (.iload 5, 2) := by decide +kernel
theorem dX6_changeEnd_37 : decode cX6_changeEnd 37 = .ok (.iastore, 1) := by decide +kernel
theorem dX6_changeEnd_38 : decode cX6_changeEnd 38 = .ok (.aload_n 0, 1) := by decide +kernel
theorem dX6_changeEnd_39 : decode cX6_changeEnd 39 = .ok (.getfield 30, 3) := by decide +kernel
theorem dX6_changeEnd_42 : decode cX6_changeEnd 42 = .ok (.iload_n 1, 1) := by decide +kernel
theorem dX6_changeEnd_43 : decode cX6_changeEnd 43 = .ok (.iconst 0, 1) := by decide +kernel
theorem dX6_changeEnd_44 : decode cX6_changeEnd 44 = .ok (.iastore, 1) := by decide +kernel
theorem dX6_changeEnd_45 : decode cX6_changeEnd 45 = .ok (.aload_n 0, 1) := by decide +kernel
theorem dX6_changeEnd_46 : decode cX6_changeEnd 46 = .ok (.getfield 33, 3) := by decide +kernel
theorem dX6_changeEnd_49 : decode cX6_changeEnd 49 = .ok (.iload_n 1, 1) := by decide +kernel
theorem dX6_changeEnd_50 : decode cX6_changeEnd 50 = .ok (.iconst 0, 1) := by decide +kernel
theorem dX6_changeEnd_51 : decode cX6_changeEnd 51 = .ok (.iastore, 1) := by decide +kernel
theorem dX6_changeEnd_52 : decode cX6_changeEnd 52 = .ok (.aload_n 0, 1) := by decide +kernel
theorem dX6_changeEnd_53 : decode cX6_changeEnd 53 = .ok (.invokevirtual 46, 3) := by decide +kernel
theorem dX6_changeEnd_56 : decode cX6_changeEnd 56 = .ok (.iload 6, 2) := by decide +kernel
theorem dX6_changeEnd_58 : decode cX6_changeEnd 58 = .ok (.ireturn, 1) := by decide +kernel
theorem dX6_swapTargets_0 : decode cX6_swapTargets 0 = .ok (.aload_n 0, 1) := by decide +kernel
theorem dX6_swapTargets_1 : decode cX6_swapTargets 1 = .ok (.getfield 18, 3) := by decide +kernel
theorem dX6_swapTargets_4 : decode cX6_swapTargets 4 = .ok (.iload_n 1, 1) := by decide +kernel
theorem dX6_swapTargets_5 : decode cX6_swapTargets 5 = .ok (.iaload, 1) := by decide +kernel
theorem dX6_swapTargets_6 : decode cX6_swapTargets 6 = .ok (.istore_n 2, 1) := by decide +kernel
theorem dX6_swapTargets_7 : decode cX6_swapTargets 7 = .ok (.aload_n 0, 1) := by decide +kernel
theorem dX6_swapTargets_8 : decode cX6_swapTargets 8 = .ok (.getfield 18, 3) := by decide +kernel
theorem dX6_swapTargets_11 : decode cX6_swapTargets 11 = .ok (.iload_n 1, 1) := by decide +kernel
theorem dX6_swapTargets_12 : decode cX6_swapTargets 12 = .ok (.aload_n 0, 1) := by decide +kernel
theorem dX6_swapTargets_13 : decode cX6_swapTargets 13 = .ok (.getfield 21, 3) := by decide +kernel
theorem dX6_swapTargets_16 : decode cX6_swapTargets 16 = .ok (.iload_n 1, 1) := by decide +kernel
theorem dX6_swapTargets_17 : decode cX6_swapTargets 17 = .ok (.iaload, 1) := by decide +kernel
theorem dX6_swapTargets_18 : decode cX6_swapTargets 18 = .ok (.iastore, 1) := by decide +kernel
theorem dX6_swapTargets_19 : decode cX6_swapTargets 19 = .ok (.aload_n 0, 1) := by decide +kernel
theorem dX6_swapTargets_20 : decode cX6_swapTargets 20 = .ok (.getfield 21, 3) := by decide +kernel
theorem dX6_swapTargets_23 : decode cX6_swapTargets 23 = .ok (.iload_n 1, 1) := by decide +kernel
theorem dX6_swapTargets_24 : decode cX6_swapTargets 24 = .ok (.iload_n 2, 1) := by decide +kernel
theorem dX6_swapTargets_25 : decode cX6_swapTargets 25 = .ok (.iastore, 1) := by decide +kernel
theorem dX6_swapTargets_26 : decode cX6_swapTargets 26 = .ok (.aload_n 0, 1) := by decide +kernel
theorem dX6_swapTargets_27 : decode cX6_swapTargets 27 = .ok (.getfield 30, 3) := by decide +kernel
theorem dX6_swapTargets_30 : decode cX6_swapTargets 30 = .ok (.iload_n 1, 1) := by decide +kernel
theorem dX6_swapTargets_31 : decode cX6_swapTargets 31 = .ok (.iaload, 1) := by decide +kernel
theorem dX6_swapTargets_32 : decode cX6_swapTargets 32 = .ok (.istore_n 3, 1) := by decide +kernel
theorem dX6_swapTargets_33 : decode cX6_swapTargets 33 = .ok (.aload_n 0, 1) := by decide +kernel
theorem dX6_swapTargets_34 : decode cX6_swapTargets 34 = .ok (.getfield 30, 3) := by decide +kernel
theorem dX6_swapTargets_37 : decode cX6_swapTargets 37 = .ok (.iload_n 1, 1) := by decide +kernel
theorem dX6_swapTargets_38 : decode cX6_swapTargets 38 = .ok (.aload_n 0, 1) := by decide +kernel
theorem dX6_swapTargets_39 : decode cX6_swapTargets 39 = .ok (.getfield 33, 3) := by decide +kernel
theorem dX6_swapTargets_42 : decode cX6_swapTargets 42 = .ok (.iload_n 1, 1) := by decide +kernel
theorem dX6_swapTargets_43 : decode cX6_swapTargets 43 = .ok (.iaload, 1) := by decide +kernel
theorem dX6_swapTargets_44 : decode cX6_swapTargets 44 = .ok (.iastore, 1) := by decide +kernel
theorem dX6_swapTargets_45 : decode cX6_swapTargets 45 = .ok (.aload_n 0, 1) := by decide +kernel
theorem dX6_swapTargets_46 : decode cX6_swapTargets 46 = .ok (.getfield 33, 3) := by decide +kernel
theorem dX6_swapTargets_49 : decode cX6_swapTargets 49 = .ok (.iload_n 1, 1) := by decide +kernel
theorem dX6_swapTargets_50 : decode cX6_swapTargets 50 = .ok (.iload_n 3, 1) := by decide +kernel
theorem dX6_swapTargets_51 : decode cX6_swapTargets 51 = .ok (.iastore, 1) := by decide +kernel
theorem dX6_swapTargets_52 : decode cX6_swapTargets 52 = .ok (.aload_n 0, 1) := by decide +kernel
theorem dX6_swapTargets_53 : decode cX6_swapTargets 53 = .ok (.getfield 24, 3) := by decide +kernel
theorem dX6_swapTargets_56 : decode cX6_swapTargets 56 = .ok (.iload_n 1, 1) := by decide +kernel
theorem dX6_swapTargets_57 : decode cX6_swapTargets 57 = .ok (.aload_n 0, 1) := by decide +kernel
theorem dX6_swapTargets_58 : decode cX6_swapTargets 58 = .ok (.getfield 24, 3) := by decide +kernel
theorem dX6_swapTargets_61 : decode cX6_swapTargets 61 = .ok (.iload_n 1, 1) := by decide +kernel
theorem dX6_swapTargets_62 : decode cX6_swapTargets 62 = .ok (.iaload, 1) := by decide +kernel
theorem dX6_swapTargets_63 : decode cX6_swapTargets 63 = .ok (.iconst (-1), 1) := by decide +kernel
theorem dX6_swapTargets_64 : decode cX6_swapTargets 64 = .ok (.ixor, 1) := by decide +kernel
theorem dX6_swapTargets_65 : decode cX6_swapTargets 65 = .ok (.iastore, 1) := by decide +kernel
theorem dX6_swapTargets_66 : decode cX6_swapTargets 66 = .ok (.return_, 1) := by decide +kernel
theorem dX6_forgetProfile_0 : decode cX6_forgetProfile 0 = .ok (.iconst 0, 1) := by decide +kernel
theorem dX6_forgetProfile_1 : decode cX6_forgetProfile 1 = .ok (.istore_n 1, 1) := by decide +kernel
theorem dX6_forgetProfile_2 : decode cX6_forgetProfile 2 = .ok (.iload_n 1, 1) := by decide +kernel
theorem dX6_forgetProfile_3 : decode cX6_forgetProfile 3 = .ok (.bipush 16, 2) := by decide +kernel
theorem dX6_forgetProfile_5 : decode cX6_forgetProfile 5 = .ok (.if_icmp .ge 30, 3) := by decide +kernel
theorem dX6_forgetProfile_8 : decode cX6_forgetProfile 8 = .ok (.aload_n 0, 1) := by decide +kernel
theorem dX6_forgetProfile_9 : decode cX6_forgetProfile 9 = .ok (.getfield 27, 3) := by decide +kernel
theorem dX6_forgetProfile_12 : decode cX6_forgetProfile 12 = .ok (.iload_n 1, 1) := by decide +kernel
theorem dX6_forgetProfile_13 : decode cX6_forgetProfile 13 = .ok (.iconst 0, 1) := by decide +kernel
theorem dX6_forgetProfile_14 : decode cX6_forgetProfile 14 = .ok (.iastore, 1) := by decide +kernel
theorem dX6_forgetProfile_15 : decode cX6_forgetProfile 15 = .ok (.aload_n 0, 1) := by decide +kernel
theorem dX6_forgetProfile_16 : decode cX6_forgetProfile 16 = .ok (.getfield 30, 3) := by decide +kernel
theorem dX6_forgetProfile_19 : decode cX6_forgetProfile 19 = .ok (.iload_n 1, 1) := by decide +kernel
theorem dX6_forgetProfile_20 : decode cX6_forgetProfile 20 = .ok (.iconst 0, 1) := by decide +kernel
theorem dX6_forgetProfile_21 : decode cX6_forgetProfile 21 = .ok (.iastore, 1) := by decide +kernel
theorem dX6_forgetProfile_22 : decode cX6_forgetProfile 22 = .ok (.aload_n 0, 1) := by decide +kernel
theorem dX6_forgetProfile_23 : decode cX6_forgetProfile 23 = .ok (.getfield 33, 3) := by decide +kernel
theorem dX6_forgetProfile_26 : decode cX6_forgetProfile 26 = .ok (.iload_n 1, 1) := by decide +kernel
theorem dX6_forgetProfile_27 : decode cX6_forgetProfile 27 = .ok (.iconst 0, 1) := by decide +kernel
theorem dX6_forgetProfile_28 : decode cX6_forgetProfile 28 = .ok (.iastore, 1) := by decide +kernel
theorem dX6_forgetProfile_29 : decode cX6_forgetProfile 29 = .ok (.iinc 1 1, 3) := by decide +kernel
theorem dX6_forgetProfile_32 : decode cX6_forgetProfile 32 = .ok (.goto (-30), 3) := by decide +kernel
theorem dX6_forgetProfile_35 : decode cX6_forgetProfile 35 = .ok (.return_, 1) := by decide +kernel
theorem dX6_sumOfCounts_0 : decode cX6_sumOfCounts 0 = .ok (.iconst 0, 1) := by decide +kernel
theorem dX6_sumOfCounts_1 : decode cX6_sumOfCounts 1 = .ok (.istore_n 1, 1) := by decide +kernel
theorem dX6_sumOfCounts_2 : decode cX6_sumOfCounts 2 = .ok (.iconst 0, 1) := by decide +kernel
theorem dX6_sumOfCounts_3 : decode cX6_sumOfCounts 3 = .ok (.istore_n 2, 1) := by decide +kernel
theorem dX6_sumOfCounts_4 : decode cX6_sumOfCounts 4 = .ok (.iload_n 2, 1) := by decide +kernel
theorem dX6_sumOfCounts_5 : decode cX6_sumOfCounts 5 = .ok (.aload_n 0, 1) := by decide +kernel
theorem dX6_sumOfCounts_6 : decode cX6_sumOfCounts 6 = .ok (.getfield 36, 3) := by decide +kernel
theorem dX6_sumOfCounts_9 : decode cX6_sumOfCounts 9 = .ok (.if_icmp .ge 18, 3) := by decide +kernel
theorem dX6_sumOfCounts_12 : decode cX6_sumOfCounts 12 = .ok (.iload_n 1, 1) := by decide +kernel
theorem dX6_sumOfCounts_13 : decode cX6_sumOfCounts 13 = .ok (.aload_n 0, 1) := by decide +kernel
theorem dX6_sumOfCounts_14 : decode cX6_sumOfCounts 14 = .ok (.getfield 27, 3) := by decide +kernel
theorem dX6_sumOfCounts_17 : decode cX6_sumOfCounts 17 = .ok (.iload_n 2, 1) := by decide +kernel
theorem dX6_sumOfCounts_18 : decode cX6_sumOfCounts 18 = .ok (.iaload, 1) := by decide +kernel
theorem dX6_sumOfCounts_19 : decode cX6_sumOfCounts 19 = .ok (.iadd, 1) := by decide +kernel
theorem dX6_sumOfCounts_20 : decode cX6_sumOfCounts 20 = .ok (.istore_n 1, 1) := by decide +kernel
theorem dX6_sumOfCounts_21 : decode cX6_sumOfCounts 21 = .ok (.iinc 2 1, 3) := by decide +kernel
theorem dX6_sumOfCounts_24 : decode cX6_sumOfCounts 24 = .ok (.goto (-20), 3) := by decide +kernel
theorem dX6_sumOfCounts_27 : decode cX6_sumOfCounts 27 = .ok (.iload_n 1, 1) := by decide +kernel
theorem dX6_sumOfCounts_28 : decode cX6_sumOfCounts 28 = .ok (.ireturn, 1) := by decide +kernel
theorem dX6_weightTo_0 : decode cX6_weightTo 0 = .ok (.iload_n 2, 1) := by decide +kernel
theorem dX6_weightTo_1 : decode cX6_weightTo 1 = .ok (.iconst (-1), 1) := by decide +kernel
theorem dX6_weightTo_2 : decode cX6_weightTo 2 = .ok (.if_icmp .ne 5, 3) := by decide +kernel
theorem dX6_weightTo_5 : decode cX6_weightTo 5 = .ok (.iconst 0, 1) := by decide +kernel
theorem dX6_weightTo_6 : decode cX6_weightTo 6 = .ok (.ireturn, 1) := by decide +kernel
theorem dX6_weightTo_7 : decode cX6_weightTo 7 = .ok (.aload_n 0, 1) := by decide +kernel
theorem dX6_weightTo_8 : decode cX6_weightTo 8 = .ok (.getfield 18, 3) := by decide +kernel
theorem dX6_weightTo_11 : decode cX6_weightTo 11 = .ok (.iload_n 1, 1) := by decide +kernel
theorem dX6_weightTo_12 : decode cX6_weightTo 12 = .ok (.iaload, 1) := by decide +kernel
theorem dX6_weightTo_13 : decode cX6_weightTo 13 = .ok (.iload_n 2, 1) := by decide +kernel
theorem dX6_weightTo_14 : decode cX6_weightTo 14 = .ok (.if_icmp .ne 10, 3) := by decide +kernel
theorem dX6_weightTo_17 : decode cX6_weightTo 17 = .ok (.aload_n 0, 1) := by decide +kernel
theorem dX6_weightTo_18 : decode cX6_weightTo 18 = .ok (.getfield 30, 3) := by decide +kernel
theorem dX6_weightTo_21 : decode cX6_weightTo 21 = .ok (.iload_n 1, 1) := by decide +kernel
theorem dX6_weightTo_22 : decode cX6_weightTo 22 = .ok (.iaload, 1) := by decide +kernel
theorem dX6_weightTo_23 : decode cX6_weightTo 23 = .ok (.ireturn, 1) := by decide +kernel
theorem dX6_weightTo_24 : decode cX6_weightTo 24 = .ok (.aload_n 0, 1) := by decide +kernel
theorem dX6_weightTo_25 : decode cX6_weightTo 25 = .ok (.getfield 21, 3) := by decide +kernel
theorem dX6_weightTo_28 : decode cX6_weightTo 28 = .ok (.iload_n 1, 1) := by decide +kernel
theorem dX6_weightTo_29 : decode cX6_weightTo 29 = .ok (.iaload, 1) := by decide +kernel
theorem dX6_weightTo_30 : decode cX6_weightTo 30 = .ok (.iload_n 2, 1) := by decide +kernel
theorem dX6_weightTo_31 : decode cX6_weightTo 31 = .ok (.if_icmp .ne 12, 3) := by decide +kernel
theorem dX6_weightTo_34 : decode cX6_weightTo 34 = .ok (.aload_n 0, 1) := by decide +kernel
theorem dX6_weightTo_35 : decode cX6_weightTo 35 = .ok (.getfield 33, 3) := by decide +kernel
theorem dX6_weightTo_38 : decode cX6_weightTo 38 = .ok (.iload_n 1, 1) := by decide +kernel
theorem dX6_weightTo_39 : decode cX6_weightTo 39 = .ok (.iaload, 1) := by decide +kernel
theorem dX6_weightTo_40 : decode cX6_weightTo 40 = .ok (.goto 4, 3) := by decide +kernel
theorem dX6_weightTo_43 : decode cX6_weightTo 43 = .ok (.iconst 0, 1) := by decide +kernel
theorem dX6_weightTo_44 : decode cX6_weightTo 44 = .ok (.ireturn, 1) := by decide +kernel
theorem dX6_costOf_0 : decode cX6_costOf 0 = .ok (.aload_n 0, 1) := by decide +kernel
theorem dX6_costOf_1 : decode cX6_costOf 1 = .ok (.getfield 30, 3) := by decide +kernel
theorem dX6_costOf_4 : decode cX6_costOf 4 = .ok (.iload_n 1, 1) := by decide +kernel
theorem dX6_costOf_5 : decode cX6_costOf 5 = .ok (.iaload, 1) := by decide +kernel
theorem dX6_costOf_6 : decode cX6_costOf 6 = .ok (.aload_n 0, 1) := by decide +kernel
theorem dX6_costOf_7 : decode cX6_costOf 7 = .ok (.iload_n 1, 1) := by decide +kernel
theorem dX6_costOf_8 : decode cX6_costOf 8 = .ok (.aload_n 0, 1) := by decide +kernel
theorem dX6_costOf_9 : decode cX6_costOf 9 = .ok (.getfield 18, 3) := by decide +kernel
theorem dX6_costOf_12 : decode cX6_costOf 12 = .ok (.iload_n 1, 1) := by decide +kernel
theorem dX6_costOf_13 : decode cX6_costOf 13 = .ok (.iaload, 1) := by decide +kernel
theorem dX6_costOf_14 : decode cX6_costOf 14 = .ok (.iload_n 2, 1) := by decide +kernel
theorem dX6_costOf_15 : decode cX6_costOf 15 = .ok (.invokevirtual 49, 3) := by decide +kernel
theorem dX6_costOf_18 : decode cX6_costOf 18 = .ok (.imul, 1) := by decide +kernel
theorem dX6_costOf_19 : decode cX6_costOf 19 = .ok (.istore_n 3, 1) := by decide +kernel
theorem dX6_costOf_20 : decode cX6_costOf 20 = .ok (.iload_n 3, 1) := by decide +kernel
theorem dX6_costOf_21 : decode cX6_costOf 21 = .ok (.aload_n 0, 1) := by decide +kernel
theorem dX6_costOf_22 : decode cX6_costOf 22 = .ok (.getfield 33, 3) := by decide +kernel
theorem dX6_costOf_25 : decode cX6_costOf 25 = .ok (.iload_n 1, 1) := by decide +kernel
theorem dX6_costOf_26 : decode cX6_costOf 26 = .ok (.iaload, 1) := by decide +kernel
theorem dX6_costOf_27 : decode cX6_costOf 27 = .ok (.aload_n 0, 1) := by decide +kernel
theorem dX6_costOf_28 : decode cX6_costOf 28 = .ok (.iload_n 1, 1) := by decide +kernel
theorem dX6_costOf_29 : decode cX6_costOf 29 = .ok (.aload_n 0, 1) := by decide +kernel
theorem dX6_costOf_30 : decode cX6_costOf 30 = .ok (.getfield 21, 3) := by decide +kernel
theorem dX6_costOf_33 : decode cX6_costOf 33 = .ok (.iload_n 1, 1) := by decide +kernel
theorem dX6_costOf_34 : decode cX6_costOf 34 = .ok (.iaload, 1) := by decide +kernel
theorem dX6_costOf_35 : decode cX6_costOf 35 = .ok (.iload_n 2, 1) := by decide +kernel
theorem dX6_costOf_36 : decode cX6_costOf 36 = .ok (.invokevirtual 49, 3) := by decide +kernel
theorem dX6_costOf_39 : decode cX6_costOf 39 = .ok (.imul, 1) := by decide +kernel
theorem dX6_costOf_40 : decode cX6_costOf 40 = .ok (.iadd, 1) := by decide +kernel
theorem dX6_costOf_41 : decode cX6_costOf 41 = .ok (.ireturn, 1) := by decide +kernel
theorem dX6_edgeCycles_0 : decode cX6_edgeCycles 0 = .ok (.iload_n 2, 1) := by decide +kernel
theorem dX6_edgeCycles_1 : decode cX6_edgeCycles 1 = .ok (.iload_n 3, 1) := by decide +kernel
theorem dX6_edgeCycles_2 : decode cX6_edgeCycles 2 = .ok (.if_icmp .ne 7, 3) := by decide +kernel
theorem dX6_edgeCycles_5 : decode cX6_edgeCycles 5 = .ok (.iconst 1, 1) := by decide +kernel
theorem dX6_edgeCycles_6 : decode cX6_edgeCycles 6 = .ok (.goto 4, 3) := by decide +kernel
theorem dX6_edgeCycles_9 : decode cX6_edgeCycles 9 = .ok (.iconst 0, 1) := by decide +kernel
theorem dX6_edgeCycles_10 : decode cX6_edgeCycles 10 = .ok (.istore 4, 2) := by decide +kernel
theorem dX6_edgeCycles_12 : decode cX6_edgeCycles 12 = .ok (.aload_n 0, 1) := by decide +kernel
theorem dX6_edgeCycles_13 : decode cX6_edgeCycles 13 = .ok (.getfield 15, 3) := by decide +kernel
theorem dX6_edgeCycles_16 : decode cX6_edgeCycles 16 = .ok (.iload_n 1, 1) := by decide +kernel
theorem dX6_edgeCycles_17 : decode cX6_edgeCycles 17 = .ok (.iaload, 1) := by decide +kernel
theorem dX6_edgeCycles_18 : decode cX6_edgeCycles 18 = .ok (.ifCond .ne 14, 3) := by decide +kernel
theorem dX6_edgeCycles_21 : decode cX6_edgeCycles 21 = .ok (.iload 4, 2) := by decide +kernel
theorem dX6_edgeCycles_23 : decode cX6_edgeCycles 23 = .ok (.ifCond .eq 7, 3) := by decide +kernel
theorem dX6_edgeCycles_26 : decode cX6_edgeCycles 26 = .ok (.iconst 0, 1) := by decide +kernel
theorem dX6_edgeCycles_27 : decode cX6_edgeCycles 27 = .ok (.goto 4, 3) := by decide +kernel
theorem dX6_edgeCycles_30 : decode cX6_edgeCycles 30 = .ok (.iconst 2, 1) := by decide +kernel
theorem dX6_edgeCycles_31 : decode cX6_edgeCycles 31 = .ok (.ireturn, 1) := by decide +kernel
theorem dX6_edgeCycles_32 : decode cX6_edgeCycles 32 = .ok (.iload 4, 2) := by decide +kernel
theorem dX6_edgeCycles_34 : decode cX6_edgeCycles 34 = .ok (.ifCond .eq 7, 3) := by decide +kernel
theorem dX6_edgeCycles_37 : decode cX6_edgeCycles 37 = .ok (.iconst 1, 1) := by decide +kernel
theorem dX6_edgeCycles_38 : decode cX6_edgeCycles 38 = .ok (.goto 4, 3) := by decide +kernel
theorem dX6_edgeCycles_41 : decode cX6_edgeCycles 41 = .ok (.iconst 3, 1) := by decide +kernel
theorem dX6_edgeCycles_42 : decode cX6_edgeCycles 42 = .ok (.ireturn, 1) := by decide +kernel
theorem dX6_isHead_0 : decode cX6_isHead 0 = .ok (.aload_n 0, 1) := by decide +kernel
theorem dX6_isHead_1 : decode cX6_isHead 1 = .ok (.getfield 43, 3) := by decide +kernel
theorem dX6_isHead_4 : decode cX6_isHead 4 = .ok (.iload_n 1, 1) := by decide +kernel
theorem dX6_isHead_5 : decode cX6_isHead 5 = .ok (.invokestatic 53, 3) := by decide +kernel
theorem dX6_isHead_8 : decode cX6_isHead 8 = .ok (.ireturn, 1) := by decide +kernel
theorem dX6_findHeads_0 : decode cX6_findHeads 0 = .ok (.aload_n 0, 1) := by decide +kernel
theorem dX6_findHeads_1 : decode cX6_findHeads 1 = .ok (.iconst 0, 1) := by decide +kernel
theorem dX6_findHeads_2 : decode cX6_findHeads 2 = .ok (.putfield 43, 3) := by decide +kernel
theorem dX6_findHeads_5 : decode cX6_findHeads 5 = .ok (.aload_n 0, 1) := by decide +kernel
theorem dX6_findHeads_6 : decode cX6_findHeads 6 = .ok (.ldc 57, 2) := by decide +kernel
theorem dX6_findHeads_8 : decode cX6_findHeads 8 = .ok (.invokevirtual 58, 3) := by decide +kernel
theorem dX6_findHeads_11 : decode cX6_findHeads 11 = .ok (.istore_n 1, 1) := by decide +kernel
theorem dX6_findHeads_12 : decode cX6_findHeads 12 = .ok (.iconst 0, 1) := by decide +kernel
theorem dX6_findHeads_13 : decode cX6_findHeads 13 = .ok (.istore_n 2, 1) := by decide +kernel
theorem dX6_findHeads_14 : decode cX6_findHeads 14 = .ok (.iload_n 2, 1) := by decide +kernel
theorem dX6_findHeads_15 : decode cX6_findHeads 15 = .ok (.aload_n 0, 1) := by decide +kernel
theorem dX6_findHeads_16 : decode cX6_findHeads 16 = .ok (.getfield 36, 3) := by decide +kernel
theorem dX6_findHeads_19 : decode cX6_findHeads 19 = .ok (.if_icmp .ge 47, 3) := by decide +kernel
theorem dX6_findHeads_22 : decode cX6_findHeads 22 = .ok (.iload_n 1, 1) := by decide +kernel
theorem dX6_findHeads_23 : decode cX6_findHeads 23 = .ok (.aload_n 0, 1) := by decide +kernel
theorem dX6_findHeads_24 : decode cX6_findHeads 24 = .ok (.ldc 57, 2) := by decide +kernel
theorem dX6_findHeads_26 : decode cX6_findHeads 26 = .ok (.iconst 1, 1) := by decide +kernel
theorem dX6_findHeads_27 : decode cX6_findHeads 27 = .ok (.iload_n 2, 1) := by decide +kernel
theorem dX6_findHeads_28 : decode cX6_findHeads 28 = .ok (.ishl, 1) := by decide +kernel
theorem dX6_findHeads_29 : decode cX6_findHeads 29 = .ok (.iconst (-1), 1) := by decide +kernel
theorem dX6_findHeads_30 : decode cX6_findHeads 30 = .ok (.ixor, 1) := by decide +kernel
theorem dX6_findHeads_31 : decode cX6_findHeads 31 = .ok (.iand, 1) := by decide +kernel
theorem dX6_findHeads_32 : decode cX6_findHeads 32 = .ok (.invokevirtual 58, 3) := by decide +kernel
theorem dX6_findHeads_35 : decode cX6_findHeads 35 = .ok (.iconst (-1), 1) := by decide +kernel
theorem dX6_findHeads_36 : decode cX6_findHeads 36 = .ok (.ixor, 1) := by decide +kernel
theorem dX6_findHeads_37 : decode cX6_findHeads 37 = .ok (.iand, 1) := by decide +kernel
theorem dX6_findHeads_38 : decode cX6_findHeads 38 = .ok (.istore_n 3, 1) := by decide +kernel
theorem dX6_findHeads_39 : decode cX6_findHeads 39 = .ok (.aload_n 0, 1) := by decide +kernel
theorem dX6_findHeads_40 : decode cX6_findHeads 40 = .ok (.iload_n 3, 1) := by decide +kernel
theorem dX6_findHeads_41 : decode cX6_findHeads 41 = .ok (.iload_n 2, 1) := by decide +kernel
theorem dX6_findHeads_42 : decode cX6_findHeads 42 = .ok (.invokevirtual 62, 3) := by decide +kernel
theorem dX6_findHeads_45 : decode cX6_findHeads 45 = .ok (.ifCond .eq 15, 3) := by decide +kernel
theorem dX6_findHeads_48 : decode cX6_findHeads 48 = .ok (.aload_n 0, 1) := by decide +kernel
theorem dX6_findHeads_49 : decode cX6_findHeads 49 = .ok (.dup, 1) := by decide +kernel
theorem dX6_findHeads_50 : decode cX6_findHeads 50 = .ok (.getfield 43, 3) := by decide +kernel
theorem dX6_findHeads_53 : decode cX6_findHeads 53 = .ok (.iconst 1, 1) := by decide +kernel
theorem dX6_findHeads_54 : decode cX6_findHeads 54 = .ok (.iload_n 2, 1) := by decide +kernel
theorem dX6_findHeads_55 : decode cX6_findHeads 55 = .ok (.ishl, 1) := by decide +kernel
theorem dX6_findHeads_56 : decode cX6_findHeads 56 = .ok (.ior, 1) := by decide +kernel
theorem dX6_findHeads_57 : decode cX6_findHeads 57 = .ok (.putfield 43, 3) := by decide +kernel
theorem dX6_findHeads_60 : decode cX6_findHeads 60 = .ok (.iinc 2 1, 3) := by decide +kernel
theorem dX6_findHeads_63 : decode cX6_findHeads 63 = .ok (.goto (-49), 3) := by decide +kernel
theorem dX6_findHeads_66 : decode cX6_findHeads 66 = .ok (.return_, 1) := by decide +kernel
theorem dX6_reachedWithin_0 : decode cX6_reachedWithin 0 = .ok (.iload_n 1, 1) := by decide +kernel
theorem dX6_reachedWithin_1 : decode cX6_reachedWithin 1 = .ok (.iconst 1, 1) := by decide +kernel
theorem dX6_reachedWithin_2 : decode cX6_reachedWithin 2 = .ok (.iand, 1) := by decide +kernel
theorem dX6_reachedWithin_3 : decode cX6_reachedWithin 3 = .ok (.istore_n 2, 1) := by decide +kernel
theorem dX6_reachedWithin_4 : decode cX6_reachedWithin 4 = .ok (.iload_n 2, 1) := by decide +kernel
theorem dX6_reachedWithin_5 : decode cX6_reachedWithin 5 = .ok (.ifCond .eq 7, 3) := by decide +kernel
theorem dX6_reachedWithin_8 : decode cX6_reachedWithin 8 = .ok (.iconst 1, 1) := by decide +kernel
theorem dX6_reachedWithin_9 : decode cX6_reachedWithin 9 = .ok (.goto 4, 3) := by decide +kernel
theorem dX6_reachedWithin_12 : decode cX6_reachedWithin 12 = .ok (.iconst 0, 1) := by decide +kernel
theorem dX6_reachedWithin_13 : decode cX6_reachedWithin 13 = .ok (.istore_n 3, 1) := by decide +kernel
theorem dX6_reachedWithin_14 : decode cX6_reachedWithin 14 = .ok (.iconst 0, 1) := by decide +kernel
theorem dX6_reachedWithin_15 : decode cX6_reachedWithin 15 = .ok (.istore 4, 2) := by decide +kernel
theorem dX6_reachedWithin_17 : decode cX6_reachedWithin 17 = .ok (.iload 4, 2) := by decide +kernel
theorem dX6_reachedWithin_19 : decode cX6_reachedWithin 19 = .ok (.aload_n 0, 1) := by decide +kernel
theorem dX6_reachedWithin_20 : decode cX6_reachedWithin 20 = .ok (.getfield 36, 3) := by decide +kernel
theorem dX6_reachedWithin_23 : decode cX6_reachedWithin 23 = .ok (.if_icmp .ge 66, 3) := by decide +kernel
theorem dX6_reachedWithin_26 : decode cX6_reachedWithin 26 = .ok (.iload_n 3, 1) := by decide +kernel
theorem dX6_reachedWithin_27 : decode cX6_reachedWithin 27 = .ok (.ifCond .eq 62, 3) := by decide +kernel
theorem dX6_reachedWithin_30 : decode cX6_reachedWithin 30 = .ok (.iload_n 2, 1) := by decide +kernel
theorem dX6_reachedWithin_31 : decode cX6_reachedWithin 31 = .ok (.istore 5, 2) := by decide +kernel
theorem dX6_reachedWithin_33 : decode cX6_reachedWithin 33 = .ok (.iconst 0, 1) := by decide +kernel
theorem dX6_reachedWithin_34 : decode cX6_reachedWithin 34 = .ok (.istore 6, 2) := by decide +kernel
theorem dX6_reachedWithin_36 : decode cX6_reachedWithin 36 = .ok (.iload 6, 2) := by decide +kernel
theorem dX6_reachedWithin_38 : decode cX6_reachedWithin 38 = .ok (.aload_n 0, 1) := by decide +kernel
theorem dX6_reachedWithin_39 : decode cX6_reachedWithin 39 = .ok (.getfield 36, 3) := by decide +kernel
theorem dX6_reachedWithin_42 : decode cX6_reachedWithin 42 = .ok (.if_icmp .ge 29, 3) := by decide +kernel
theorem dX6_reachedWithin_45 : decode cX6_reachedWithin 45 = .ok (.iload_n 2, 1) := by decide +kernel
theorem dX6_reachedWithin_46 : decode cX6_reachedWithin 46 = .ok (.iload 6, 2) := by decide +kernel
theorem dX6_reachedWithin_48 : decode cX6_reachedWithin 48 = .ok (.invokestatic 53, 3) := by decide +kernel
theorem dX6_reachedWithin_51 : decode cX6_reachedWithin 51 = .ok (.ifCond .eq 14, 3) := by decide +kernel
theorem dX6_reachedWithin_54 : decode cX6_reachedWithin 54 = .ok (.iload_n 2, 1) := by decide +kernel
theorem dX6_reachedWithin_55 : decode cX6_reachedWithin 55 = .ok (.aload_n 0, 1) := by decide +kernel
theorem dX6_reachedWithin_56 : decode cX6_reachedWithin 56 = .ok (.iload 6, 2) := by decide +kernel
theorem dX6_reachedWithin_58 : decode cX6_reachedWithin 58 = .ok (.invokevirtual 65, 3) := by decide +kernel
theorem dX6_reachedWithin_61 : decode cX6_reachedWithin 61 = .ok (.iload_n 1, 1) := by decide +kernel
theorem dX6_reachedWithin_62 : decode cX6_reachedWithin 62 = .ok (.iand, 1) := by decide +kernel
theorem dX6_reachedWithin_63 : decode cX6_reachedWithin 63 = .ok (.ior, 1) := by decide +kernel
theorem dX6_reachedWithin_64 : decode cX6_reachedWithin 64 = .ok (.istore_n 2, 1) := by decide +kernel
theorem dX6_reachedWithin_65 : decode cX6_reachedWithin 65 = .ok (.iinc 6 1, 3) := by decide +kernel
theorem dX6_reachedWithin_68 : decode cX6_reachedWithin 68 = .ok (.goto (-32), 3) := by decide +kernel
theorem dX6_reachedWithin_71 : decode cX6_reachedWithin 71 = .ok (.iload_n 2, 1) := by decide +kernel
theorem dX6_reachedWithin_72 : decode cX6_reachedWithin 72 = .ok (.iload 5, 2) := by decide +kernel
theorem dX6_reachedWithin_74 : decode cX6_reachedWithin 74 = .ok (.if_icmp .eq 7, 3) := by decide +kernel
theorem dX6_reachedWithin_77 : decode cX6_reachedWithin 77 = .ok (.iconst 1, 1) := by decide +kernel
theorem dX6_reachedWithin_78 : decode cX6_reachedWithin 78 = .ok (.goto 4, 3) := by decide +kernel
theorem dX6_reachedWithin_81 : decode cX6_reachedWithin 81 = .ok (.iconst 0, 1) := by decide +kernel
theorem dX6_reachedWithin_82 : decode cX6_reachedWithin 82 = .ok (.istore_n 3, 1) := by decide +kernel
theorem dX6_reachedWithin_83 : decode cX6_reachedWithin 83 = .ok (.iinc 4 1, 3) := by decide +kernel
theorem dX6_reachedWithin_86 : decode cX6_reachedWithin 86 = .ok (.goto (-69), 3) := by decide +kernel
theorem dX6_reachedWithin_89 : decode cX6_reachedWithin 89 = .ok (.iload_n 2, 1) := by decide +kernel
theorem dX6_reachedWithin_90 : decode cX6_reachedWithin 90 = .ok (.ireturn, 1) := by decide +kernel
theorem dX6_anyGoesTo_0 : decode cX6_anyGoesTo 0 = .ok (.iconst 0, 1) := by decide +kernel
theorem dX6_anyGoesTo_1 : decode cX6_anyGoesTo 1 = .ok (.istore_n 3, 1) := by decide +kernel
theorem dX6_anyGoesTo_2 : decode cX6_anyGoesTo 2 = .ok (.iload_n 3, 1) := by decide +kernel
theorem dX6_anyGoesTo_3 : decode cX6_anyGoesTo 3 = .ok (.aload_n 0, 1) := by decide +kernel
theorem dX6_anyGoesTo_4 : decode cX6_anyGoesTo 4 = .ok (.getfield 36, 3) := by decide +kernel
theorem dX6_anyGoesTo_7 : decode cX6_anyGoesTo 7 = .ok (.if_icmp .ge 31, 3) := by decide +kernel
theorem dX6_anyGoesTo_10 : decode cX6_anyGoesTo 10 = .ok (.iload_n 1, 1) := by decide +kernel
theorem dX6_anyGoesTo_11 : decode cX6_anyGoesTo 11 = .ok (.iload_n 3, 1) := by decide +kernel
theorem dX6_anyGoesTo_12 : decode cX6_anyGoesTo 12 = .ok (.invokestatic 53, 3) := by decide +kernel
theorem dX6_anyGoesTo_15 : decode cX6_anyGoesTo 15 = .ok (.ifCond .eq 17, 3) := by decide +kernel
theorem dX6_anyGoesTo_18 : decode cX6_anyGoesTo 18 = .ok (.aload_n 0, 1) := by decide +kernel
theorem dX6_anyGoesTo_19 : decode cX6_anyGoesTo 19 = .ok (.iload_n 3, 1) := by decide +kernel
theorem dX6_anyGoesTo_20 : decode cX6_anyGoesTo 20 = .ok (.invokevirtual 65, 3) := by decide +kernel
theorem dX6_anyGoesTo_23 : decode cX6_anyGoesTo 23 = .ok (.iload_n 2, 1) := by decide +kernel
theorem dX6_anyGoesTo_24 : decode cX6_anyGoesTo 24 = .ok (.invokestatic 53, 3) := by decide +kernel
theorem dX6_anyGoesTo_27 : decode cX6_anyGoesTo 27 = .ok (.ifCond .eq 5, 3) := by decide +kernel
theorem dX6_anyGoesTo_30 : decode cX6_anyGoesTo 30 = .ok (.iconst 1, 1) := by decide +kernel
theorem dX6_anyGoesTo_31 : decode cX6_anyGoesTo 31 = .ok (.ireturn, 1) := by decide +kernel
theorem dX6_anyGoesTo_32 : decode cX6_anyGoesTo 32 = .ok (.iinc 3 1, 3) := by decide +kernel
theorem dX6_anyGoesTo_35 : decode cX6_anyGoesTo 35 = .ok (.goto (-33), 3) := by decide +kernel
theorem dX6_anyGoesTo_38 : decode cX6_anyGoesTo 38 = .ok (.iconst 0, 1) := by decide +kernel
theorem dX6_anyGoesTo_39 : decode cX6_anyGoesTo 39 = .ok (.ireturn, 1) := by decide +kernel
theorem dX6_targetsOf_0 : decode cX6_targetsOf 0 = .ok (.iconst 0, 1) := by decide +kernel
theorem dX6_targetsOf_1 : decode cX6_targetsOf 1 = .ok (.istore_n 2, 1) := by decide +kernel
theorem dX6_targetsOf_2 : decode cX6_targetsOf 2 = .ok (.aload_n 0, 1) := by decide +kernel
theorem dX6_targetsOf_3 : decode cX6_targetsOf 3 = .ok (.getfield 18, 3) := by decide +kernel
theorem dX6_targetsOf_6 : decode cX6_targetsOf 6 = .ok (.iload_n 1, 1) := by decide +kernel
theorem dX6_targetsOf_7 : decode cX6_targetsOf 7 = .ok (.iaload, 1) := by decide +kernel
theorem dX6_targetsOf_8 : decode cX6_targetsOf 8 = .ok (.iconst (-1), 1) := by decide +kernel
theorem dX6_targetsOf_9 : decode cX6_targetsOf 9 = .ok (.if_icmp .eq 14, 3) := by decide +kernel
theorem dX6_targetsOf_12 : decode cX6_targetsOf 12 = .ok (.iload_n 2, 1) := by decide +kernel
theorem dX6_targetsOf_13 : decode cX6_targetsOf 13 = .ok (.iconst 1, 1) := by decide +kernel
theorem dX6_targetsOf_14 : decode cX6_targetsOf 14 = .ok (.aload_n 0, 1) := by decide +kernel
theorem dX6_targetsOf_15 : decode cX6_targetsOf 15 = .ok (.getfield 18, 3) := by decide +kernel
theorem dX6_targetsOf_18 : decode cX6_targetsOf 18 = .ok (.iload_n 1, 1) := by decide +kernel
theorem dX6_targetsOf_19 : decode cX6_targetsOf 19 = .ok (.iaload, 1) := by decide +kernel
theorem dX6_targetsOf_20 : decode cX6_targetsOf 20 = .ok (.ishl, 1) := by decide +kernel
theorem dX6_targetsOf_21 : decode cX6_targetsOf 21 = .ok (.ior, 1) := by decide +kernel
theorem dX6_targetsOf_22 : decode cX6_targetsOf 22 = .ok (.istore_n 2, 1) := by decide +kernel
theorem dX6_targetsOf_23 : decode cX6_targetsOf 23 = .ok (.aload_n 0, 1) := by decide +kernel
theorem dX6_targetsOf_24 : decode cX6_targetsOf 24 = .ok (.getfield 21, 3) := by decide +kernel
theorem dX6_targetsOf_27 : decode cX6_targetsOf 27 = .ok (.iload_n 1, 1) := by decide +kernel
theorem dX6_targetsOf_28 : decode cX6_targetsOf 28 = .ok (.iaload, 1) := by decide +kernel
theorem dX6_targetsOf_29 : decode cX6_targetsOf 29 = .ok (.iconst (-1), 1) := by decide +kernel
theorem dX6_targetsOf_30 : decode cX6_targetsOf 30 = .ok (.if_icmp .eq 14, 3) := by decide +kernel
theorem dX6_targetsOf_33 : decode cX6_targetsOf 33 = .ok (.iload_n 2, 1) := by decide +kernel
theorem dX6_targetsOf_34 : decode cX6_targetsOf 34 = .ok (.iconst 1, 1) := by decide +kernel
theorem dX6_targetsOf_35 : decode cX6_targetsOf 35 = .ok (.aload_n 0, 1) := by decide +kernel
theorem dX6_targetsOf_36 : decode cX6_targetsOf 36 = .ok (.getfield 21, 3) := by decide +kernel
theorem dX6_targetsOf_39 : decode cX6_targetsOf 39 = .ok (.iload_n 1, 1) := by decide +kernel
theorem dX6_targetsOf_40 : decode cX6_targetsOf 40 = .ok (.iaload, 1) := by decide +kernel
theorem dX6_targetsOf_41 : decode cX6_targetsOf 41 = .ok (.ishl, 1) := by decide +kernel
theorem dX6_targetsOf_42 : decode cX6_targetsOf 42 = .ok (.ior, 1) := by decide +kernel
theorem dX6_targetsOf_43 : decode cX6_targetsOf 43 = .ok (.istore_n 2, 1) := by decide +kernel
theorem dX6_targetsOf_44 : decode cX6_targetsOf 44 = .ok (.iload_n 2, 1) := by decide +kernel
theorem dX6_targetsOf_45 : decode cX6_targetsOf 45 = .ok (.ireturn, 1) := by decide +kernel
theorem dX6_holds_0 : decode cX6_holds 0 = .ok (.iload_n 0, 1) := by decide +kernel
theorem dX6_holds_1 : decode cX6_holds 1 = .ok (.iload_n 1, 1) := by decide +kernel
theorem dX6_holds_2 : decode cX6_holds 2 = .ok (.ishr, 1) := by decide +kernel
theorem dX6_holds_3 : decode cX6_holds 3 = .ok (.iconst 1, 1) := by decide +kernel
theorem dX6_holds_4 : decode cX6_holds 4 = .ok (.iand, 1) := by decide +kernel
theorem dX6_holds_5 : decode cX6_holds 5 = .ok (.iconst 1, 1) := by decide +kernel
theorem dX6_holds_6 : decode cX6_holds 6 = .ok (.if_icmp .ne 7, 3) := by decide +kernel
theorem dX6_holds_9 : decode cX6_holds 9 = .ok (.iconst 1, 1) := by decide +kernel
theorem dX6_holds_10 : decode cX6_holds 10 = .ok (.goto 4, 3) := by decide +kernel
theorem dX6_holds_13 : decode cX6_holds 13 = .ok (.iconst 0, 1) := by decide +kernel
theorem dX6_holds_14 : decode cX6_holds 14 = .ok (.ireturn, 1) := by decide +kernel
theorem dX7_init_0 : decode cX7_init 0 = .ok (.aload_n 0, 1) := by decide +kernel
theorem dX7_init_1 : decode cX7_init 1 = .ok (.invokespecial 3, 3) := by decide +kernel
theorem dX7_init_4 : decode cX7_init 4 = .ok (.aload_n 0, 1) := by decide +kernel
theorem dX7_init_5 : decode cX7_init 5 = .ok (.new 9, 3) := by decide +kernel
theorem dX7_init_8 : decode cX7_init 8 = .ok (.dup, 1) := by decide +kernel
theorem dX7_init_9 : decode cX7_init 9 = .ok (.invokespecial 11, 3) := by decide +kernel
theorem dX7_init_12 : decode cX7_init 12 = .ok (.putfield 12, 3) := by decide +kernel
theorem dX7_init_15 : decode cX7_init 15 = .ok (.aload_n 0, 1) := by decide +kernel
theorem dX7_init_16 : decode cX7_init 16 = .ok (.new 16, 3) := by decide +kernel
theorem dX7_init_19 : decode cX7_init 19 = .ok (.dup, 1) := by decide +kernel
theorem dX7_init_20 : decode cX7_init 20 = .ok (.invokespecial 18, 3) := by decide +kernel
theorem dX7_init_23 : decode cX7_init 23 = .ok (.putfield 19, 3) := by decide +kernel
theorem dX7_init_26 : decode cX7_init 26 = .ok (.aload_n 0, 1) := by decide +kernel
theorem dX7_init_27 : decode cX7_init 27 = .ok (.new 23, 3) := by decide +kernel
theorem dX7_init_30 : decode cX7_init 30 = .ok (.dup, 1) := by decide +kernel
theorem dX7_init_31 : decode cX7_init 31 = .ok (.aload_n 0, 1) := by decide +kernel
theorem dX7_init_32 : decode cX7_init 32 = .ok (.getfield 12, 3) := by decide +kernel
theorem dX7_init_35 : decode cX7_init 35 = .ok (.aload_n 0, 1) := by decide +kernel
theorem dX7_init_36 : decode cX7_init 36 = .ok (.getfield 19, 3) := by decide +kernel
theorem dX7_init_39 : decode cX7_init 39 = .ok (.invokespecial 25, 3) := by decide +kernel
theorem dX7_init_42 : decode cX7_init 42 = .ok (.putfield 28, 3) := by decide +kernel
theorem dX7_init_45 : decode cX7_init 45 = .ok (.aload_n 0, 1) := by decide +kernel
theorem dX7_init_46 : decode cX7_init 46 = .ok (.new 32, 3) := by decide +kernel
theorem dX7_init_49 : decode cX7_init 49 = .ok (.dup, 1) := by decide +kernel
theorem dX7_init_50 : decode cX7_init 50 = .ok (.aload_n 0, 1) := by decide +kernel
theorem dX7_init_51 : decode cX7_init 51 = .ok (.getfield 12, 3) := by decide +kernel
theorem dX7_init_54 : decode cX7_init 54 = .ok (.aload_n 0, 1) := by decide +kernel
theorem dX7_init_55 : decode cX7_init 55 = .ok (.getfield 19, 3) := by decide +kernel
theorem dX7_init_58 : decode cX7_init 58 = .ok (.invokespecial 34, 3) := by decide +kernel
theorem dX7_init_61 : decode cX7_init 61 = .ok (.putfield 35, 3) := by decide +kernel
theorem dX7_init_64 : decode cX7_init 64 = .ok (.aload_n 0, 1) := by decide +kernel
theorem dX7_init_65 : decode cX7_init 65 = .ok (.new 39, 3) := by decide +kernel
theorem dX7_init_68 : decode cX7_init 68 = .ok (.dup, 1) := by decide +kernel
theorem dX7_init_69 : decode cX7_init 69 = .ok (.aload_n 0, 1) := by decide +kernel
theorem dX7_init_70 : decode cX7_init 70 = .ok (.getfield 12, 3) := by decide +kernel
theorem dX7_init_73 : decode cX7_init 73 = .ok (.invokespecial 41, 3) := by decide +kernel
theorem dX7_init_76 : decode cX7_init 76 = .ok (.putfield 44, 3) := by decide +kernel
theorem dX7_init_79 : decode cX7_init 79 = .ok (.aload_n 0, 1) := by decide +kernel
theorem dX7_init_80 : decode cX7_init 80 = .ok (.new 48, 3) := by decide +kernel
theorem dX7_init_83 : decode cX7_init 83 = .ok (.dup, 1) := by decide +kernel
theorem dX7_init_84 : decode cX7_init 84 = .ok (.invokespecial 50, 3) := by decide +kernel
theorem dX7_init_87 : decode cX7_init 87 = .ok (.putfield 51, 3) := by decide +kernel
theorem dX7_init_90 : decode cX7_init 90 = .ok (.aload_n 0, 1) := by decide +kernel
theorem dX7_init_91 : decode cX7_init 91 = .ok (.new 55, 3) := by decide +kernel
theorem dX7_init_94 : decode cX7_init 94 = .ok (.dup, 1) := by decide +kernel
theorem dX7_init_95 : decode cX7_init 95 = .ok (.invokespecial 57, 3) := by decide +kernel
theorem dX7_init_98 : decode cX7_init 98 = .ok (.putfield 58, 3) := by decide +kernel
theorem dX7_init_101 : decode cX7_init 101 = .ok (.aload_n 0, 1) := by decide +kernel
theorem dX7_init_102 : decode cX7_init 102 = .ok (.iconst 1, 1) := by decide +kernel
theorem dX7_init_103 : decode cX7_init 103 = .ok (.putfield 62, 3) := by decide +kernel
theorem dX7_init_106 : decode cX7_init 106 = .ok (.aload_n 0, 1) := by decide +kernel
theorem dX7_init_107 : decode cX7_init 107 = .ok (.getfield 12, 3) := by decide +kernel
theorem dX7_init_110 : decode cX7_init 110 = .ok (.iconst 1, 1) := by decide +kernel
theorem dX7_init_111 : decode cX7_init 111 = .ok (.invokevirtual 66, 3) := by decide +kernel
theorem dX7_init_114 : decode cX7_init 114 = .ok (.aload_n 0, 1) := by decide +kernel
theorem dX7_init_115 : decode cX7_init 115 = .ok (.getfield 19, 3) := by decide +kernel
theorem dX7_init_118 : decode cX7_init 118 = .ok (.iconst 1, 1) := by decide +kernel
theorem dX7_init_119 : decode cX7_init 119 = .ok (.invokevirtual 70, 3) := by decide +kernel
theorem dX7_init_122 : decode cX7_init 122 = .ok (.return_, 1) := by decide +kernel
theorem dX7_clear_0 : decode cX7_clear 0 = .ok (.iload_n 1, 1) := by decide +kernel
theorem dX7_clear_1 : decode cX7_clear 1 = .ok (.iconst 1, 1) := by decide +kernel
theorem dX7_clear_2 : decode cX7_clear 2 = .ok (.if_icmp .lt 9, 3) := by decide +kernel
theorem dX7_clear_5 : decode cX7_clear 5 = .ok (.iload_n 1, 1) := by decide +kernel
theorem dX7_clear_6 : decode cX7_clear 6 = .ok (.bipush 16, 2) := by decide +kernel
theorem dX7_clear_8 : decode cX7_clear 8 = .ok (.if_icmp .le 13, 3) := by decide +kernel
theorem dX7_clear_11 : decode cX7_clear 11 = .ok (.new 71, 3) := by decide +kernel
theorem dX7_clear_14 : decode cX7_clear 14 = .ok (.dup, 1) := by decide +kernel
theorem dX7_clear_15 : decode cX7_clear 15 = .ok (.ldc 73, 2) := by decide +kernel
theorem dX7_clear_17 : decode cX7_clear 17 = .ok (.invokespecial 75, 3) := by decide +kernel
theorem dX7_clear_20 : decode cX7_clear 20 = .ok (.athrow, 1) := by decide +kernel
theorem dX7_clear_21 : decode cX7_clear 21 = .ok (.aload_n 0, 1) := by decide +kernel
theorem dX7_clear_22 : decode cX7_clear 22 = .ok (.getfield 12, 3) := by decide +kernel
theorem dX7_clear_25 : decode cX7_clear 25 = .ok (.getfield 78, 3) := by decide +kernel
theorem dX7_clear_28 : decode cX7_clear 28 = .ok (.istore_n 2, 1) := by decide +kernel
theorem dX7_clear_29 : decode cX7_clear 29 = .ok (.aload_n 0, 1) := by decide +kernel
theorem dX7_clear_30 : decode cX7_clear 30 = .ok (.getfield 12, 3) := by decide +kernel
theorem dX7_clear_33 : decode cX7_clear 33 = .ok (.iload_n 1, 1) := by decide +kernel
theorem dX7_clear_34 : decode cX7_clear 34 = .ok (.invokevirtual 66, 3) := by decide +kernel
theorem dX7_clear_37 : decode cX7_clear 37 = .ok (.aload_n 0, 1) := by decide +kernel
theorem dX7_clear_38 : decode cX7_clear 38 = .ok (.getfield 19, 3) := by decide +kernel
theorem dX7_clear_41 : decode cX7_clear 41 = .ok (.iload_n 1, 1) := by decide +kernel
theorem dX7_clear_42 : decode cX7_clear 42 = .ok (.invokevirtual 70, 3) := by decide +kernel
theorem dX7_clear_45 : decode cX7_clear 45 = .ok (.aload_n 0, 1) := by decide +kernel
theorem dX7_clear_46 : decode cX7_clear 46 = .ok (.getfield 51, 3) := by decide +kernel
theorem dX7_clear_49 : decode cX7_clear 49 = .ok (.invokevirtual 81, 3) := by decide +kernel
theorem dX7_clear_52 : decode cX7_clear 52 = .ok (.iload_n 2, 1) := by decide +kernel
theorem dX7_clear_53 : decode cX7_clear 53 = .ok (.ireturn, 1) := by decide +kernel
theorem dX7_setSize_0 : decode cX7_setSize 0 = .ok (.aload_n 0, 1) := by decide +kernel
theorem dX7_setSize_1 : decode cX7_setSize 1 = .ok (.iload_n 1, 1) := by decide +kernel
theorem dX7_setSize_2 : decode cX7_setSize 2 = .ok (.invokevirtual 84, 3) := by decide +kernel
theorem dX7_setSize_5 : decode cX7_setSize 5 = .ok (.iload_n 2, 1) := by decide +kernel
theorem dX7_setSize_6 : decode cX7_setSize 6 = .ok (.ifCond .lt 9, 3) := by decide +kernel
theorem dX7_setSize_9 : decode cX7_setSize 9 = .ok (.iload_n 2, 1) := by decide +kernel
theorem dX7_setSize_10 : decode cX7_setSize 10 = .ok (.bipush 60, 2) := by decide +kernel
theorem dX7_setSize_12 : decode cX7_setSize 12 = .ok (.if_icmp .le 13, 3) := by decide +kernel
theorem dX7_setSize_15 : decode cX7_setSize 15 = .ok (.new 71, 3) := by decide +kernel
theorem dX7_setSize_18 : decode cX7_setSize 18 = .ok (.dup, 1) := by decide +kernel
theorem dX7_setSize_19 : decode cX7_setSize 19 = .ok (.ldc 87, 2) := by decide +kernel
theorem dX7_setSize_21 : decode cX7_setSize 21 = .ok (.invokespecial 75, 3) := by decide +kernel
theorem dX7_setSize_24 : decode cX7_setSize 24 = .ok (.athrow, 1) := by decide +kernel
theorem dX7_setSize_25 : decode cX7_setSize 25 = .ok (.aload_n 0, 1) := by decide +kernel
theorem dX7_setSize_26 : decode cX7_setSize 26 = .ok (.getfield 12, 3) := by decide +kernel
theorem dX7_setSize_29 : decode cX7_setSize 29 = .ok (.getfield 89, 3) := by decide +kernel
theorem dX7_setSize_32 : decode cX7_setSize 32 = .ok (.iload_n 1, 1) := by decide +kernel
theorem dX7_setSize_33 : decode cX7_setSize 33 = .ok (.iaload, 1) := by decide +kernel
theorem dX7_setSize_34 : decode cX7_setSize 34 = .ok (.istore_n 3, 1) := by decide +kernel
theorem dX7_setSize_35 : decode cX7_setSize 35 = .ok (.aload_n 0, 1) := by decide +kernel
theorem dX7_setSize_36 : decode cX7_setSize 36 = .ok (.getfield 12, 3) := by decide +kernel
theorem dX7_setSize_39 : decode cX7_setSize 39 = .ok (.getfield 89, 3) := by decide +kernel
theorem dX7_setSize_42 : decode cX7_setSize 42 = .ok (.iload_n 1, 1) := by decide +kernel
theorem dX7_setSize_43 : decode cX7_setSize 43 = .ok (.iload_n 2, 1) := by decide +kernel
theorem dX7_setSize_44 : decode cX7_setSize 44 = .ok (.iastore, 1) := by decide +kernel
theorem dX7_setSize_45 : decode cX7_setSize 45 = .ok (.iload_n 3, 1) := by decide +kernel
theorem dX7_setSize_46 : decode cX7_setSize 46 = .ok (.ireturn, 1) := by decide +kernel
theorem dX7_setGo_0 : decode cX7_setGo 0 = .ok (.aload_n 0, 1) := by decide +kernel
theorem dX7_setGo_1 : decode cX7_setGo 1 = .ok (.iload_n 1, 1) := by decide +kernel
theorem dX7_setGo_2 : decode cX7_setGo 2 = .ok (.invokevirtual 84, 3) := by decide +kernel
theorem dX7_setGo_5 : decode cX7_setGo 5 = .ok (.aload_n 0, 1) := by decide +kernel
theorem dX7_setGo_6 : decode cX7_setGo 6 = .ok (.iload_n 2, 1) := by decide +kernel
theorem dX7_setGo_7 : decode cX7_setGo 7 = .ok (.invokevirtual 84, 3) := by decide +kernel
theorem dX7_setGo_10 : decode cX7_setGo 10 = .ok (.aload_n 0, 1) := by decide +kernel
theorem dX7_setGo_11 : decode cX7_setGo 11 = .ok (.getfield 12, 3) := by decide +kernel
theorem dX7_setGo_14 : decode cX7_setGo 14 = .ok (.iload_n 1, 1) := by decide +kernel
theorem dX7_setGo_15 : decode cX7_setGo 15 = .ok (.iconst 0, 1) := by decide +kernel
theorem dX7_setGo_16 : decode cX7_setGo 16 = .ok (.iload_n 2, 1) := by decide +kernel
theorem dX7_setGo_17 : decode cX7_setGo 17 = .ok (.iconst (-1), 1) := by decide +kernel
theorem dX7_setGo_18 : decode cX7_setGo 18 = .ok (.iconst 0, 1) := by decide +kernel
theorem dX7_setGo_19 : decode cX7_setGo 19 = .ok (.invokevirtual 93, 3) := by decide +kernel
theorem dX7_setGo_22 : decode cX7_setGo 22 = .ok (.ireturn, 1) := by decide +kernel
theorem dX7_setIf_0 : decode cX7_setIf 0 = .ok (.aload_n 0, 1) := by decide +kernel
theorem dX7_setIf_1 : decode cX7_setIf 1 = .ok (.iload_n 1, 1) := by decide +kernel
theorem dX7_setIf_2 : decode cX7_setIf 2 = .ok (.invokevirtual 84, 3) := by decide +kernel
theorem dX7_setIf_5 : decode cX7_setIf 5 = .ok (.aload_n 0, 1) := by decide +kernel
theorem dX7_setIf_6 : decode cX7_setIf 6 = .ok (.iload_n 2, 1) := by decide +kernel
theorem dX7_setIf_7 : decode cX7_setIf 7 = .ok (.invokevirtual 84, 3) := by decide +kernel
theorem dX7_setIf_10 : decode cX7_setIf 10 = .ok (.aload_n 0, 1) := by decide +kernel
theorem dX7_setIf_11 : decode cX7_setIf 11 = .ok (.iload_n 3, 1) := by decide +kernel
theorem dX7_setIf_12 : decode cX7_setIf 12 = .ok (.invokevirtual 84, 3) := by decide +kernel
theorem dX7_setIf_15 : decode cX7_setIf 15 = .ok (.iload_n 2, 1) := by decide +kernel
theorem dX7_setIf_16 : decode cX7_setIf 16 = .ok (.iload_n 3, 1) := by decide +kernel
theorem dX7_setIf_17 : decode cX7_setIf 17 = .ok (.if_icmp .ne 13, 3) := by decide +kernel
theorem dX7_setIf_20 : decode cX7_setIf 20 = .ok (.new 71, 3) := by decide +kernel
theorem dX7_setIf_23 : decode cX7_setIf 23 = .ok (.dup, 1) := by decide +kernel
theorem dX7_setIf_24 : decode cX7_setIf 24 = .ok (.ldc 97, 2) := by decide +kernel
theorem dX7_setIf_26 : decode cX7_setIf 26 = .ok (.invokespecial 75, 3) := by decide +kernel
theorem dX7_setIf_29 : decode cX7_setIf 29 = .ok (.athrow, 1) := by decide +kernel
theorem dX7_setIf_30 : decode cX7_setIf 30 = .ok (.aload_n 0, 1) := by decide +kernel
theorem dX7_setIf_31 : decode cX7_setIf 31 = .ok (.getfield 12, 3) := by decide +kernel
theorem dX7_setIf_34 : decode cX7_setIf 34 = .ok (.iload_n 1, 1) := by decide +kernel
theorem dX7_setIf_35 : decode cX7_setIf 35 = .ok (.iconst 1, 1) := by decide +kernel
theorem dX7_setIf_36 : decode cX7_setIf 36 = .ok (.iload_n 2, 1) := by decide +kernel
theorem dX7_setIf_37 : decode cX7_setIf 37 = .ok (.iload_n 3, 1) := by decide +kernel
theorem dX7_setIf_38 : decode cX7_setIf 38 = .ok (.iload 4, 2) := by decide +kernel
theorem dX7_setIf_40 : decode cX7_setIf 40 = .ok (.invokevirtual 93, 3) := by decide +kernel
theorem dX7_setIf_43 : decode cX7_setIf 43 = .ok (.ireturn, 1) := by decide +kernel
theorem dX7_setStop_0 : decode cX7_setStop 0 = .ok (.aload_n 0, 1) := by decide +kernel
theorem dX7_setStop_1 : decode cX7_setStop 1 = .ok (.iload_n 1, 1) := by decide +kernel
theorem dX7_setStop_2 : decode cX7_setStop 2 = .ok (.invokevirtual 84, 3) := by decide +kernel
theorem dX7_setStop_5 : decode cX7_setStop 5 = .ok (.aload_n 0, 1) := by decide +kernel
theorem dX7_setStop_6 : decode cX7_setStop 6 = .ok (.getfield 12, 3) := by decide +kernel
theorem dX7_setStop_9 : decode cX7_setStop 9 = .ok (.iload_n 1, 1) := by decide +kernel
theorem dX7_setStop_10 : decode cX7_setStop 10 = .ok (.iconst 2, 1) := by decide +kernel
theorem dX7_setStop_11 : decode cX7_setStop 11 = .ok (.iconst (-1), 1) := by decide +kernel
theorem dX7_setStop_12 : decode cX7_setStop 12 = .ok (.iconst (-1), 1) := by decide +kernel
theorem dX7_setStop_13 : decode cX7_setStop 13 = .ok (.iconst 0, 1) := by decide +kernel
theorem dX7_setStop_14 : decode cX7_setStop 14 = .ok (.invokevirtual 93, 3) := by decide +kernel
theorem dX7_setStop_17 : decode cX7_setStop 17 = .ok (.ireturn, 1) := by decide +kernel
theorem dX7_invert_0 : decode cX7_invert 0 = .ok (.aload_n 0, 1) := by decide +kernel
theorem dX7_invert_1 : decode cX7_invert 1 = .ok (.iload_n 1, 1) := by decide +kernel
theorem dX7_invert_2 : decode cX7_invert 2 = .ok (.invokevirtual 84, 3) := by decide +kernel
theorem dX7_invert_5 : decode cX7_invert 5 = .ok (.aload_n 0, 1) := by decide +kernel
theorem dX7_invert_6 : decode cX7_invert 6 = .ok (.getfield 12, 3) := by decide +kernel
theorem dX7_invert_9 : decode cX7_invert 9 = .ok (.getfield 99, 3) := by decide +kernel
theorem dX7_invert_12 : decode cX7_invert 12 = .ok (.iload_n 1, 1) := by decide +kernel
theorem dX7_invert_13 : decode cX7_invert 13 = .ok (.iaload, 1) := by decide +kernel
theorem dX7_invert_14 : decode cX7_invert 14 = .ok (.iconst 1, 1) := by decide +kernel
theorem dX7_invert_15 : decode cX7_invert 15 = .ok (.if_icmp .eq 13, 3) := by decide +kernel
theorem dX7_invert_18 : decode cX7_invert 18 = .ok (.new 102, 3) := by decide +kernel
theorem dX7_invert_21 : decode cX7_invert 21 = .ok (.dup, 1) := by decide +kernel
theorem dX7_invert_22 : decode cX7_invert 22 = .ok (.ldc 104, 2) := by decide +kernel
theorem dX7_invert_24 : decode cX7_invert 24 = .ok (.invokespecial 106, 3) := by decide +kernel
theorem dX7_invert_27 : decode cX7_invert 27 = .ok (.athrow, 1) := by decide +kernel
theorem dX7_invert_28 : decode cX7_invert 28 = .ok (.aload_n 0, 1) := by decide +kernel
theorem dX7_invert_29 : decode cX7_invert 29 = .ok (.getfield 12, 3) := by decide +kernel
theorem dX7_invert_32 : decode cX7_invert 32 = .ok (.iload_n 1, 1) := by decide +kernel
theorem dX7_invert_33 : decode cX7_invert 33 = .ok (.invokevirtual 107, 3) := by decide +kernel
theorem dX7_invert_36 : decode cX7_invert 36 = .ok (.aload_n 0, 1) := by decide +kernel
theorem dX7_invert_37 : decode cX7_invert 37 = .ok (.getfield 12, 3) := by decide +kernel
theorem dX7_invert_40 : decode cX7_invert 40 = .ok (.getfield 110, 3) := by decide +kernel
theorem dX7_invert_43 : decode cX7_invert 43 = .ok (.iload_n 1, 1) := by decide +kernel
theorem dX7_invert_44 : decode cX7_invert 44 = .ok (.iaload, 1) := by decide +kernel
theorem dX7_invert_45 : decode cX7_invert 45 = .ok (.ireturn, 1) := by decide +kernel
theorem dX7_block_0 : decode cX7_block 0 = .ok (.aload_n 0, 1) := by decide +kernel
theorem dX7_block_1 : decode cX7_block 1 = .ok (.iload_n 1, 1) := by decide +kernel
theorem dX7_block_2 : decode cX7_block 2 = .ok (.invokevirtual 84, 3) := by decide +kernel
theorem dX7_block_5 : decode cX7_block 5 = .ok (.iload_n 2, 1) := by decide +kernel
theorem dX7_block_6 : decode cX7_block 6 = .ok (.tableswitch 133 0 7 #[46, 56, 66, 76, 86, 96, 106, 116], 46) := by decide +kernel
theorem dX7_block_52 : decode cX7_block 52 = .ok (.aload_n 0, 1) := by decide +kernel
theorem dX7_block_53 : decode cX7_block 53 = .ok (.getfield 12, 3) := by decide +kernel
theorem dX7_block_56 : decode cX7_block 56 = .ok (.getfield 89, 3) := by decide +kernel
theorem dX7_block_59 : decode cX7_block 59 = .ok (.iload_n 1, 1) := by decide +kernel
theorem dX7_block_60 : decode cX7_block 60 = .ok (.iaload, 1) := by decide +kernel
theorem dX7_block_61 : decode cX7_block 61 = .ok (.ireturn, 1) := by decide +kernel
theorem dX7_block_62 : decode cX7_block 62 = .ok (.aload_n 0, 1) := by decide +kernel
theorem dX7_block_63 : decode cX7_block 63 = .ok (.getfield 12, 3) := by decide +kernel
theorem dX7_block_66 : decode cX7_block 66 = .ok (.getfield 99, 3) := by decide +kernel
theorem dX7_block_69 : decode cX7_block 69 = .ok (.iload_n 1, 1) := by decide +kernel
theorem dX7_block_70 : decode cX7_block 70 = .ok (.iaload, 1) := by decide +kernel
theorem dX7_block_71 : decode cX7_block 71 = .ok (.ireturn, 1) := by decide +kernel
theorem dX7_block_72 : decode cX7_block 72 = .ok (.aload_n 0, 1) := by decide +kernel
theorem dX7_block_73 : decode cX7_block 73 = .ok (.getfield 12, 3) := by decide +kernel
theorem dX7_block_76 : decode cX7_block 76 = .ok (.getfield 110, 3) := by decide +kernel
theorem dX7_block_79 : decode cX7_block 79 = .ok (.iload_n 1, 1) := by decide +kernel
theorem dX7_block_80 : decode cX7_block 80 = .ok (.iaload, 1) := by decide +kernel
theorem dX7_block_81 : decode cX7_block 81 = .ok (.ireturn, 1) := by decide +kernel
theorem dX7_block_82 : decode cX7_block 82 = .ok (.aload_n 0, 1) := by decide +kernel
theorem dX7_block_83 : decode cX7_block 83 = .ok (.getfield 12, 3) := by decide +kernel
theorem dX7_block_86 : decode cX7_block 86 = .ok (.getfield 113, 3) := by decide +kernel
theorem dX7_block_89 : decode cX7_block 89 = .ok (.iload_n 1, 1) := by decide +kernel
theorem dX7_block_90 : decode cX7_block 90 = .ok (.iaload, 1) := by decide +kernel
theorem dX7_block_91 : decode cX7_block 91 = .ok (.ireturn, 1) := by decide +kernel
theorem dX7_block_92 : decode cX7_block 92 = .ok (.aload_n 0, 1) := by decide +kernel
theorem dX7_block_93 : decode cX7_block 93 = .ok (.getfield 12, 3) := by decide +kernel
theorem dX7_block_96 : decode cX7_block 96 = .ok (.getfield 116, 3) := by decide +kernel
theorem dX7_block_99 : decode cX7_block 99 = .ok (.iload_n 1, 1) := by decide +kernel
theorem dX7_block_100 : decode cX7_block 100 = .ok (.iaload, 1) := by decide +kernel
theorem dX7_block_101 : decode cX7_block 101 = .ok (.ireturn, 1) := by decide +kernel
theorem dX7_block_102 : decode cX7_block 102 = .ok (.aload_n 0, 1) := by decide +kernel
theorem dX7_block_103 : decode cX7_block 103 = .ok (.getfield 12, 3) := by decide +kernel
theorem dX7_block_106 : decode cX7_block 106 = .ok (.getfield 119, 3) := by decide +kernel
theorem dX7_block_109 : decode cX7_block 109 = .ok (.iload_n 1, 1) := by decide +kernel
theorem dX7_block_110 : decode cX7_block 110 = .ok (.iaload, 1) := by decide +kernel
theorem dX7_block_111 : decode cX7_block 111 = .ok (.ireturn, 1) := by decide +kernel
theorem dX7_block_112 : decode cX7_block 112 = .ok (.aload_n 0, 1) := by decide +kernel
theorem dX7_block_113 : decode cX7_block 113 = .ok (.getfield 12, 3) := by decide +kernel
theorem dX7_block_116 : decode cX7_block 116 = .ok (.getfield 122, 3) := by decide +kernel
theorem dX7_block_119 : decode cX7_block 119 = .ok (.iload_n 1, 1) := by decide +kernel
theorem dX7_block_120 : decode cX7_block 120 = .ok (.iaload, 1) := by decide +kernel
theorem dX7_block_121 : decode cX7_block 121 = .ok (.ireturn, 1) := by decide +kernel
theorem dX7_block_122 : decode cX7_block 122 = .ok (.aload_n 0, 1) := by decide +kernel
theorem dX7_block_123 : decode cX7_block 123 = .ok (.getfield 12, 3) := by decide +kernel
theorem dX7_block_126 : decode cX7_block 126 = .ok (.iload_n 1, 1) := by decide +kernel
theorem dX7_block_127 : decode cX7_block 127 = .ok (.invokevirtual 125, 3) := by decide +kernel
theorem dX7_block_130 : decode cX7_block 130 = .ok (.ifCond .eq 7, 3) := by decide +kernel
theorem dX7_block_133 : decode cX7_block 133 = .ok (.iconst 1, 1) := by decide +kernel
theorem dX7_block_134 : decode cX7_block 134 = .ok (.goto 4, 3) := by decide +kernel
theorem dX7_block_137 : decode cX7_block 137 = .ok (.iconst 0, 1) := by decide +kernel
theorem dX7_block_138 : decode cX7_block 138 = .ok (.ireturn, 1) := by decide +kernel
theorem dX7_block_139 : decode cX7_block 139 = .ok (.new 71, 3) := by decide +kernel
theorem dX7_block_142 : decode cX7_block 142 = .ok (.dup, 1) := by decide +kernel
theorem dX7_block_143 : decode cX7_block 143 = .ok (.ldc 129, 2) := by decide +kernel
theorem dX7_block_145 : decode cX7_block 145 = .ok (.invokespecial 75, 3) := by decide +kernel
theorem dX7_block_148 : decode cX7_block 148 = .ok (.athrow, 1) := by decide +kernel
theorem dX7_run_0 : decode cX7_run 0 = .ok (.aload_n 0, 1) := by decide +kernel
theorem dX7_run_1 : decode cX7_run 1 = .ok (.iload_n 1, 1) := by decide +kernel
theorem dX7_run_2 : decode cX7_run 2 = .ok (.invokevirtual 131, 3) := by decide +kernel
theorem dX7_run_5 : decode cX7_run 5 = .ok (.aload_n 0, 1) := by decide +kernel
theorem dX7_run_6 : decode cX7_run 6 = .ok (.getfield 44, 3) := by decide +kernel
theorem dX7_run_9 : decode cX7_run 9 = .ok (.invokevirtual 134, 3) := by decide +kernel
theorem dX7_run_12 : decode cX7_run 12 = .ok (.aload_n 0, 1) := by decide +kernel
theorem dX7_run_13 : decode cX7_run 13 = .ok (.getfield 44, 3) := by decide +kernel
theorem dX7_run_16 : decode cX7_run 16 = .ok (.getfield 137, 3) := by decide +kernel
theorem dX7_run_19 : decode cX7_run 19 = .ok (.ireturn, 1) := by decide +kernel
theorem dX7_runLayout_0 : decode cX7_runLayout 0 = .ok (.aload_n 0, 1) := by decide +kernel
theorem dX7_runLayout_1 : decode cX7_runLayout 1 = .ok (.iload_n 1, 1) := by decide +kernel
theorem dX7_runLayout_2 : decode cX7_runLayout 2 = .ok (.invokevirtual 131, 3) := by decide +kernel
theorem dX7_runLayout_5 : decode cX7_runLayout 5 = .ok (.aload_n 0, 1) := by decide +kernel
theorem dX7_runLayout_6 : decode cX7_runLayout 6 = .ok (.getfield 28, 3) := by decide +kernel
theorem dX7_runLayout_9 : decode cX7_runLayout 9 = .ok (.aload_n 0, 1) := by decide +kernel
theorem dX7_runLayout_10 : decode cX7_runLayout 10 = .ok (.getfield 19, 3) := by decide +kernel
theorem dX7_runLayout_13 : decode cX7_runLayout 13 = .ok (.getfield 140, 3) := by decide +kernel
theorem dX7_runLayout_16 : decode cX7_runLayout 16 = .ok (.aload_n 0, 1) := by decide +kernel
theorem dX7_runLayout_17 : decode cX7_runLayout 17 = .ok (.getfield 62, 3) := by decide +kernel
theorem dX7_runLayout_20 : decode cX7_runLayout 20 = .ok (.invokevirtual 143, 3) := by decide +kernel
theorem dX7_runLayout_23 : decode cX7_runLayout 23 = .ok (.aload_n 0, 1) := by decide +kernel
theorem dX7_runLayout_24 : decode cX7_runLayout 24 = .ok (.getfield 28, 3) := by decide +kernel
theorem dX7_runLayout_27 : decode cX7_runLayout 27 = .ok (.aload_n 0, 1) := by decide +kernel
theorem dX7_runLayout_28 : decode cX7_runLayout 28 = .ok (.getfield 44, 3) := by decide +kernel
theorem dX7_runLayout_31 : decode cX7_runLayout 31 = .ok (.invokevirtual 147, 3) := by decide +kernel
theorem dX7_runLayout_34 : decode cX7_runLayout 34 = .ok (.ireturn, 1) := by decide +kernel
theorem dX7_pathLength_0 : decode cX7_pathLength 0 = .ok (.aload_n 0, 1) := by decide +kernel
theorem dX7_pathLength_1 : decode cX7_pathLength 1 = .ok (.getfield 44, 3) := by decide +kernel
theorem dX7_pathLength_4 : decode cX7_pathLength 4 = .ok (.getfield 137, 3) := by decide +kernel
theorem dX7_pathLength_7 : decode cX7_pathLength 7 = .ok (.ireturn, 1) := by decide +kernel
theorem dX7_pathBlock_0 : decode cX7_pathBlock 0 = .ok (.iload_n 1, 1) := by decide +kernel
theorem dX7_pathBlock_1 : decode cX7_pathBlock 1 = .ok (.ifCond .lt 14, 3) := by decide +kernel
theorem dX7_pathBlock_4 : decode cX7_pathBlock 4 = .ok (.iload_n 1, 1) := by decide +kernel
theorem dX7_pathBlock_5 : decode cX7_pathBlock 5 = .ok (.aload_n 0, 1) := by decide +kernel
theorem dX7_pathBlock_6 : decode cX7_pathBlock 6 = .ok (.getfield 44, 3) := by decide +kernel
theorem dX7_pathBlock_9 : decode cX7_pathBlock 9 = .ok (.getfield 137, 3) := by decide +kernel
theorem dX7_pathBlock_12 : decode cX7_pathBlock 12 = .ok (.if_icmp .lt 13, 3) := by decide +kernel
theorem dX7_pathBlock_15 : decode cX7_pathBlock 15 = .ok (.new 151, 3) := by decide +kernel
theorem dX7_pathBlock_18 : decode cX7_pathBlock 18 = .ok (.dup, 1) := by decide +kernel
theorem dX7_pathBlock_19 : decode cX7_pathBlock 19 = .ok (.ldc 153, 2) := by decide +kernel
theorem dX7_pathBlock_21 : decode cX7_pathBlock 21 = .ok (.invokespecial 155, 3) := by decide +kernel
theorem dX7_pathBlock_24 : decode cX7_pathBlock 24 = .ok (.athrow, 1) := by decide +kernel
theorem dX7_pathBlock_25 : decode cX7_pathBlock 25 = .ok (.aload_n 0, 1) := by decide +kernel
theorem dX7_pathBlock_26 : decode cX7_pathBlock 26 = .ok (.getfield 44, 3) := by decide +kernel
theorem dX7_pathBlock_29 : decode cX7_pathBlock 29 = .ok (.getfield 156, 3) := by decide +kernel
theorem dX7_pathBlock_32 : decode cX7_pathBlock 32 = .ok (.iload_n 1, 1) := by decide +kernel
theorem dX7_pathBlock_33 : decode cX7_pathBlock 33 = .ok (.iaload, 1) := by decide +kernel
theorem dX7_pathBlock_34 : decode cX7_pathBlock 34 = .ok (.ireturn, 1) := by decide +kernel
theorem dX7_clearProfile_0 : decode cX7_clearProfile 0 = .ok (.aload_n 0, 1) := by decide +kernel
theorem dX7_clearProfile_1 : decode cX7_clearProfile 1 = .ok (.getfield 12, 3) := by decide +kernel
theorem dX7_clearProfile_4 : decode cX7_clearProfile 4 = .ok (.invokevirtual 159, 3) := by decide +kernel
theorem dX7_clearProfile_7 : decode cX7_clearProfile 7 = .ok (.istore_n 1, 1) := by decide +kernel
theorem dX7_clearProfile_8 : decode cX7_clearProfile 8 = .ok (.aload_n 0, 1) := by decide +kernel
theorem dX7_clearProfile_9 : decode cX7_clearProfile 9 = .ok (.getfield 12, 3) := by decide +kernel
theorem dX7_clearProfile_12 : decode cX7_clearProfile 12 = .ok (.invokevirtual 163, 3) := by decide +kernel
theorem dX7_clearProfile_15 : decode cX7_clearProfile 15 = .ok (.iload_n 1, 1) := by decide +kernel
theorem dX7_clearProfile_16 : decode cX7_clearProfile 16 = .ok (.ireturn, 1) := by decide +kernel
theorem dX7_setAlignment_0 : decode cX7_setAlignment 0 = .ok (.iload_n 1, 1) := by decide +kernel
theorem dX7_setAlignment_1 : decode cX7_setAlignment 1 = .ok (.iconst 1, 1) := by decide +kernel
theorem dX7_setAlignment_2 : decode cX7_setAlignment 2 = .ok (.if_icmp .lt 13, 3) := by decide +kernel
theorem dX7_setAlignment_5 : decode cX7_setAlignment 5 = .ok (.iload_n 1, 1) := by decide +kernel
theorem dX7_setAlignment_6 : decode cX7_setAlignment 6 = .ok (.bipush 32, 2) := by decide +kernel
theorem dX7_setAlignment_8 : decode cX7_setAlignment 8 = .ok (.if_icmp .gt 7, 3) := by decide +kernel
theorem dX7_setAlignment_11 : decode cX7_setAlignment 11 = .ok (.iconst 1, 1) := by decide +kernel
theorem dX7_setAlignment_12 : decode cX7_setAlignment 12 = .ok (.goto 4, 3) := by decide +kernel
theorem dX7_setAlignment_15 : decode cX7_setAlignment 15 = .ok (.iconst 0, 1) := by decide +kernel
theorem dX7_setAlignment_16 : decode cX7_setAlignment 16 = .ok (.istore_n 2, 1) := by decide +kernel
theorem dX7_setAlignment_17 : decode cX7_setAlignment 17 = .ok (.iload_n 2, 1) := by decide +kernel
theorem dX7_setAlignment_18 : decode cX7_setAlignment 18 = .ok (.ifCond .eq 11, 3) := by decide +kernel
theorem dX7_setAlignment_21 : decode cX7_setAlignment 21 = .ok (.iload_n 1, 1) := by decide +kernel
theorem dX7_setAlignment_22 : decode cX7_setAlignment 22 = .ok (.iload_n 1, 1) := by decide +kernel
theorem dX7_setAlignment_23 : decode cX7_setAlignment 23 = .ok (.iconst 1, 1) := by decide +kernel
theorem dX7_setAlignment_24 : decode cX7_setAlignment 24 = .ok (.isub, 1) := by decide +kernel
theorem dX7_setAlignment_25 : decode cX7_setAlignment 25 = .ok (.iand, 1) := by decide +kernel
theorem dX7_setAlignment_26 : decode cX7_setAlignment 26 = .ok (.ifCond .eq 13, 3) := by decide +kernel
theorem dX7_setAlignment_29 : decode cX7_setAlignment 29 = .ok (.new 71, 3) := by decide +kernel
theorem dX7_setAlignment_32 : decode cX7_setAlignment 32 = .ok (.dup, 1) := by decide +kernel
theorem dX7_setAlignment_33 : decode cX7_setAlignment 33 = .ok (.ldc 166, 2) := by decide +kernel
theorem dX7_setAlignment_35 : decode cX7_setAlignment 35 = .ok (.invokespecial 75, 3) := by decide +kernel
theorem dX7_setAlignment_38 : decode cX7_setAlignment 38 = .ok (.athrow, 1) := by decide +kernel
theorem dX7_setAlignment_39 : decode cX7_setAlignment 39 = .ok (.aload_n 0, 1) := by decide +kernel
theorem dX7_setAlignment_40 : decode cX7_setAlignment 40 = .ok (.getfield 51, 3) := by decide +kernel
theorem dX7_setAlignment_43 : decode cX7_setAlignment 43 = .ok (.aload_n 0, 1) := by decide +kernel
theorem dX7_setAlignment_44 : decode cX7_setAlignment 44 = .ok (.getfield 19, 3) := by decide +kernel
theorem dX7_setAlignment_47 : decode cX7_setAlignment 47 = .ok (.invokevirtual 168, 3) := by decide +kernel
theorem dX7_setAlignment_50 : decode cX7_setAlignment 50 = .ok (.aload_n 0, 1) := by decide +kernel
theorem dX7_setAlignment_51 : decode cX7_setAlignment 51 = .ok (.getfield 19, 3) := by decide +kernel
theorem dX7_setAlignment_54 : decode cX7_setAlignment 54 = .ok (.getfield 140, 3) := by decide +kernel
theorem dX7_setAlignment_57 : decode cX7_setAlignment 57 = .ok (.istore_n 3, 1) := by decide +kernel
theorem dX7_setAlignment_58 : decode cX7_setAlignment 58 = .ok (.aload_n 0, 1) := by decide +kernel
theorem dX7_setAlignment_59 : decode cX7_setAlignment 59 = .ok (.getfield 19, 3) := by decide +kernel
theorem dX7_setAlignment_62 : decode cX7_setAlignment 62 = .ok (.iload_n 1, 1) := by decide +kernel
theorem dX7_setAlignment_63 : decode cX7_setAlignment 63 = .ok (.putfield 140, 3) := by decide +kernel
theorem dX7_setAlignment_66 : decode cX7_setAlignment 66 = .ok (.iload_n 3, 1) := by decide +kernel
theorem dX7_setAlignment_67 : decode cX7_setAlignment 67 = .ok (.ireturn, 1) := by decide +kernel
theorem dX7_setLoopLimit_0 : decode cX7_setLoopLimit 0 = .ok (.iload_n 1, 1) := by decide +kernel
theorem dX7_setLoopLimit_1 : decode cX7_setLoopLimit 1 = .ok (.ifCond .lt 10, 3) := by decide +kernel
theorem dX7_setLoopLimit_4 : decode cX7_setLoopLimit 4 = .ok (.iload_n 1, 1) := by decide +kernel
theorem dX7_setLoopLimit_5 : decode cX7_setLoopLimit 5 = .ok (.sipush 9999, 3) := by decide +kernel
theorem dX7_setLoopLimit_8 : decode cX7_setLoopLimit 8 = .ok (.if_icmp .le 13, 3) := by decide +kernel
theorem dX7_setLoopLimit_11 : decode cX7_setLoopLimit 11 = .ok (.new 71, 3) := by decide +kernel
theorem dX7_setLoopLimit_14 : decode cX7_setLoopLimit 14 = .ok (.dup, 1) := by decide +kernel
theorem dX7_setLoopLimit_15 : decode cX7_setLoopLimit 15 = .ok (.ldc 172, 2) := by decide +kernel
theorem dX7_setLoopLimit_17 : decode cX7_setLoopLimit 17 = .ok (.invokespecial 75, 3) := by decide +kernel
theorem dX7_setLoopLimit_20 : decode cX7_setLoopLimit 20 = .ok (.athrow, 1) := by decide +kernel
theorem dX7_setLoopLimit_21 : decode cX7_setLoopLimit 21 = .ok (.aload_n 0, 1) := by decide +kernel
theorem dX7_setLoopLimit_22 : decode cX7_setLoopLimit 22 = .ok (.getfield 62, 3) := by decide +kernel
theorem dX7_setLoopLimit_25 : decode cX7_setLoopLimit 25 = .ok (.istore_n 2, 1) := by decide +kernel
theorem dX7_setLoopLimit_26 : decode cX7_setLoopLimit 26 = .ok (.aload_n 0, 1) := by decide +kernel
theorem dX7_setLoopLimit_27 : decode cX7_setLoopLimit 27 = .ok (.iload_n 1, 1) := by decide +kernel
theorem dX7_setLoopLimit_28 : decode cX7_setLoopLimit 28 = .ok (.putfield 62, 3) := by decide +kernel
theorem dX7_setLoopLimit_31 : decode cX7_setLoopLimit 31 = .ok (.iload_n 2, 1) := by decide +kernel
theorem dX7_setLoopLimit_32 : decode cX7_setLoopLimit 32 = .ok (.ireturn, 1) := by decide +kernel
theorem dX7_arrange_0 : decode cX7_arrange 0 = .ok (.iload_n 1, 1) := by decide +kernel
theorem dX7_arrange_1 : decode cX7_arrange 1 = .ok (.ifCond .lt 8, 3) := by decide +kernel
theorem dX7_arrange_4 : decode cX7_arrange 4 = .ok (.iload_n 1, 1) := by decide +kernel
theorem dX7_arrange_5 : decode cX7_arrange 5 = .ok (.iconst 2, 1) := by decide +kernel
theorem dX7_arrange_6 : decode cX7_arrange 6 = .ok (.if_icmp .le 13, 3) := by decide +kernel
theorem dX7_arrange_9 : decode cX7_arrange 9 = .ok (.new 71, 3) := by decide +kernel
theorem dX7_arrange_12 : decode cX7_arrange 12 = .ok (.dup, 1) := by decide +kernel
theorem dX7_arrange_13 : decode cX7_arrange 13 = .ok (.ldc 174, 2) := by decide +kernel
theorem dX7_arrange_15 : decode cX7_arrange 15 = .ok (.invokespecial 75, 3) := by decide +kernel
theorem dX7_arrange_18 : decode cX7_arrange 18 = .ok (.athrow, 1) := by decide +kernel
theorem dX7_arrange_19 : decode cX7_arrange 19 = .ok (.iload_n 2, 1) := by decide +kernel
theorem dX7_arrange_20 : decode cX7_arrange 20 = .ok (.iconst (-1), 1) := by decide +kernel
theorem dX7_arrange_21 : decode cX7_arrange 21 = .ok (.if_icmp .lt 10, 3) := by decide +kernel
theorem dX7_arrange_24 : decode cX7_arrange 24 = .ok (.iload_n 2, 1) := by decide +kernel
theorem dX7_arrange_25 : decode cX7_arrange 25 = .ok (.sipush 9999, 3) := by decide +kernel
theorem dX7_arrange_28 : decode cX7_arrange 28 = .ok (.if_icmp .le 13, 3) := by decide +kernel
theorem dX7_arrange_31 : decode cX7_arrange 31 = .ok (.new 71, 3) := by decide +kernel
theorem dX7_arrange_34 : decode cX7_arrange 34 = .ok (.dup, 1) := by decide +kernel
theorem dX7_arrange_35 : decode cX7_arrange 35 = .ok (.ldc 176, 2) := by decide +kernel
theorem dX7_arrange_37 : decode cX7_arrange 37 = .ok (.invokespecial 75, 3) := by decide +kernel
theorem dX7_arrange_40 : decode cX7_arrange 40 = .ok (.athrow, 1) := by decide +kernel
theorem dX7_arrange_41 : decode cX7_arrange 41 = .ok (.aload_n 0, 1) := by decide +kernel
theorem dX7_arrange_42 : decode cX7_arrange 42 = .ok (.getfield 35, 3) := by decide +kernel
theorem dX7_arrange_45 : decode cX7_arrange 45 = .ok (.iload_n 2, 1) := by decide +kernel
theorem dX7_arrange_46 : decode cX7_arrange 46 = .ok (.invokevirtual 178, 3) := by decide +kernel
theorem dX7_arrange_49 : decode cX7_arrange 49 = .ok (.iload_n 1, 1) := by decide +kernel
theorem dX7_arrange_50 : decode cX7_arrange 50 = .ok (.iconst 2, 1) := by decide +kernel
theorem dX7_arrange_51 : decode cX7_arrange 51 = .ok (.if_icmp .ne 25, 3) := by decide +kernel
theorem dX7_arrange_54 : decode cX7_arrange 54 = .ok (.aload_n 0, 1) := by decide +kernel
theorem dX7_arrange_55 : decode cX7_arrange 55 = .ok (.getfield 35, 3) := by decide +kernel
theorem dX7_arrange_58 : decode cX7_arrange 58 = .ok (.getfield 181, 3) := by decide +kernel
theorem dX7_arrange_61 : decode cX7_arrange 61 = .ok (.bipush 7, 2) := by decide +kernel
theorem dX7_arrange_63 : decode cX7_arrange 63 = .ok (.if_icmp .le 13, 3) := by decide +kernel
theorem dX7_arrange_66 : decode cX7_arrange 66 = .ok (.new 102, 3) := by decide +kernel
theorem dX7_arrange_69 : decode cX7_arrange 69 = .ok (.dup, 1) := by decide +kernel
theorem dX7_arrange_70 : decode cX7_arrange 70 = .ok (.ldc 184, 2) := by decide +kernel
theorem dX7_arrange_72 : decode cX7_arrange 72 = .ok (.invokespecial 106, 3) := by decide +kernel
theorem dX7_arrange_75 : decode cX7_arrange 75 = .ok (.athrow, 1) := by decide +kernel
theorem dX7_arrange_76 : decode cX7_arrange 76 = .ok (.aload_n 0, 1) := by decide +kernel
theorem dX7_arrange_77 : decode cX7_arrange 77 = .ok (.getfield 51, 3) := by decide +kernel
theorem dX7_arrange_80 : decode cX7_arrange 80 = .ok (.aload_n 0, 1) := by decide +kernel
theorem dX7_arrange_81 : decode cX7_arrange 81 = .ok (.getfield 19, 3) := by decide +kernel
theorem dX7_arrange_84 : decode cX7_arrange 84 = .ok (.invokevirtual 168, 3) := by decide +kernel
theorem dX7_arrange_87 : decode cX7_arrange 87 = .ok (.aload_n 0, 1) := by decide +kernel
theorem dX7_arrange_88 : decode cX7_arrange 88 = .ok (.getfield 35, 3) := by decide +kernel
theorem dX7_arrange_91 : decode cX7_arrange 91 = .ok (.iload_n 1, 1) := by decide +kernel
theorem dX7_arrange_92 : decode cX7_arrange 92 = .ok (.invokevirtual 186, 3) := by decide +kernel
theorem dX7_arrange_95 : decode cX7_arrange 95 = .ok (.aload_n 0, 1) := by decide +kernel
theorem dX7_arrange_96 : decode cX7_arrange 96 = .ok (.getfield 28, 3) := by decide +kernel
theorem dX7_arrange_99 : decode cX7_arrange 99 = .ok (.invokevirtual 189, 3) := by decide +kernel
theorem dX7_arrange_102 : decode cX7_arrange 102 = .ok (.aload_n 0, 1) := by decide +kernel
theorem dX7_arrange_103 : decode cX7_arrange 103 = .ok (.getfield 28, 3) := by decide +kernel
theorem dX7_arrange_106 : decode cX7_arrange 106 = .ok (.aload_n 0, 1) := by decide +kernel
theorem dX7_arrange_107 : decode cX7_arrange 107 = .ok (.getfield 19, 3) := by decide +kernel
theorem dX7_arrange_110 : decode cX7_arrange 110 = .ok (.getfield 192, 3) := by decide +kernel
theorem dX7_arrange_113 : decode cX7_arrange 113 = .ok (.invokevirtual 195, 3) := by decide +kernel
theorem dX7_arrange_116 : decode cX7_arrange 116 = .ok (.ireturn, 1) := by decide +kernel
theorem dX7_exchange_0 : decode cX7_exchange 0 = .ok (.aload_n 0, 1) := by decide +kernel
theorem dX7_exchange_1 : decode cX7_exchange 1 = .ok (.iload_n 1, 1) := by decide +kernel
theorem dX7_exchange_2 : decode cX7_exchange 2 = .ok (.invokevirtual 199, 3) := by decide +kernel
theorem dX7_exchange_5 : decode cX7_exchange 5 = .ok (.aload_n 0, 1) := by decide +kernel
theorem dX7_exchange_6 : decode cX7_exchange 6 = .ok (.iload_n 2, 1) := by decide +kernel
theorem dX7_exchange_7 : decode cX7_exchange 7 = .ok (.invokevirtual 199, 3) := by decide +kernel
theorem dX7_exchange_10 : decode cX7_exchange 10 = .ok (.iload_n 1, 1) := by decide +kernel
theorem dX7_exchange_11 : decode cX7_exchange 11 = .ok (.ifCond .eq 7, 3) := by decide +kernel
theorem dX7_exchange_14 : decode cX7_exchange 14 = .ok (.iload_n 2, 1) := by decide +kernel
theorem dX7_exchange_15 : decode cX7_exchange 15 = .ok (.ifCond .ne 13, 3) := by decide +kernel
theorem dX7_exchange_18 : decode cX7_exchange 18 = .ok (.new 71, 3) := by decide +kernel
theorem dX7_exchange_21 : decode cX7_exchange 21 = .ok (.dup, 1) := by decide +kernel
theorem dX7_exchange_22 : decode cX7_exchange 22 = .ok (.ldc 202, 2) := by decide +kernel
theorem dX7_exchange_24 : decode cX7_exchange 24 = .ok (.invokespecial 75, 3) := by decide +kernel
theorem dX7_exchange_27 : decode cX7_exchange 27 = .ok (.athrow, 1) := by decide +kernel
theorem dX7_exchange_28 : decode cX7_exchange 28 = .ok (.aload_n 0, 1) := by decide +kernel
theorem dX7_exchange_29 : decode cX7_exchange 29 = .ok (.getfield 51, 3) := by decide +kernel
theorem dX7_exchange_32 : decode cX7_exchange 32 = .ok (.aload_n 0, 1) := by decide +kernel
theorem dX7_exchange_33 : decode cX7_exchange 33 = .ok (.getfield 19, 3) := by decide +kernel
theorem dX7_exchange_36 : decode cX7_exchange 36 = .ok (.invokevirtual 168, 3) := by decide +kernel
theorem dX7_exchange_39 : decode cX7_exchange 39 = .ok (.aload_n 0, 1) := by decide +kernel
theorem dX7_exchange_40 : decode cX7_exchange 40 = .ok (.getfield 19, 3) := by decide +kernel
theorem dX7_exchange_43 : decode cX7_exchange 43 = .ok (.getfield 204, 3) := by decide +kernel
theorem dX7_exchange_46 : decode cX7_exchange 46 = .ok (.iload_n 1, 1) := by decide +kernel
theorem dX7_exchange_47 : decode cX7_exchange 47 = .ok (.iaload, 1) := by decide +kernel
theorem dX7_exchange_48 : decode cX7_exchange 48 = .ok (.istore_n 3, 1) := by decide +kernel
theorem dX7_exchange_49 : decode cX7_exchange 49 = .ok (.aload_n 0, 1) := by decide +kernel
theorem dX7_exchange_50 : decode cX7_exchange 50 = .ok (.getfield 19, 3) := by decide +kernel
theorem dX7_exchange_53 : decode cX7_exchange 53 = .ok (.getfield 204, 3) := by decide +kernel
theorem dX7_exchange_56 : decode cX7_exchange 56 = .ok (.iload_n 1, 1) := by decide +kernel
theorem dX7_exchange_57 : decode cX7_exchange 57 = .ok (.aload_n 0, 1) := by decide +kernel
theorem dX7_exchange_58 : decode cX7_exchange 58 = .ok (.getfield 19, 3) := by decide +kernel
theorem dX7_exchange_61 : decode cX7_exchange 61 = .ok (.getfield 204, 3) := by decide +kernel
theorem dX7_exchange_64 : decode cX7_exchange 64 = .ok (.iload_n 2, 1) := by decide +kernel
theorem dX7_exchange_65 : decode cX7_exchange 65 = .ok (.iaload, 1) := by decide +kernel
theorem dX7_exchange_66 : decode cX7_exchange 66 = .ok (.iastore, 1) := by decide +kernel
theorem dX7_exchange_67 : decode cX7_exchange 67 = .ok (.aload_n 0, 1) := by decide +kernel
theorem dX7_exchange_68 : decode cX7_exchange 68 = .ok (.getfield 19, 3) := by decide +kernel
theorem dX7_exchange_71 : decode cX7_exchange 71 = .ok (.getfield 204, 3) := by decide +kernel
theorem dX7_exchange_74 : decode cX7_exchange 74 = .ok (.iload_n 2, 1) := by decide +kernel
theorem dX7_exchange_75 : decode cX7_exchange 75 = .ok (.iload_n 3, 1) := by decide +kernel
theorem dX7_exchange_76 : decode cX7_exchange 76 = .ok (.iastore, 1) := by decide +kernel
theorem dX7_exchange_77 : decode cX7_exchange 77 = .ok (.aload_n 0, 1) := by decide +kernel
theorem dX7_exchange_78 : decode cX7_exchange 78 = .ok (.getfield 19, 3) := by decide +kernel
theorem dX7_exchange_81 : decode cX7_exchange 81 = .ok (.getfield 204, 3) := by decide +kernel
theorem dX7_exchange_84 : decode cX7_exchange 84 = .ok (.iload_n 1, 1) := by decide +kernel
theorem dX7_exchange_85 : decode cX7_exchange 85 = .ok (.iaload, 1) := by decide +kernel
theorem dX7_exchange_86 : decode cX7_exchange 86 = .ok (.ireturn, 1) := by decide +kernel
theorem dX7_setHot_0 : decode cX7_setHot 0 = .ok (.iload_n 1, 1) := by decide +kernel
theorem dX7_setHot_1 : decode cX7_setHot 1 = .ok (.iconst 1, 1) := by decide +kernel
theorem dX7_setHot_2 : decode cX7_setHot 2 = .ok (.if_icmp .lt 14, 3) := by decide +kernel
theorem dX7_setHot_5 : decode cX7_setHot 5 = .ok (.iload_n 1, 1) := by decide +kernel
theorem dX7_setHot_6 : decode cX7_setHot 6 = .ok (.aload_n 0, 1) := by decide +kernel
theorem dX7_setHot_7 : decode cX7_setHot 7 = .ok (.getfield 12, 3) := by decide +kernel
theorem dX7_setHot_10 : decode cX7_setHot 10 = .ok (.getfield 78, 3) := by decide +kernel
theorem dX7_setHot_13 : decode cX7_setHot 13 = .ok (.if_icmp .le 13, 3) := by decide +kernel
theorem dX7_setHot_16 : decode cX7_setHot 16 = .ok (.new 71, 3) := by decide +kernel
theorem dX7_setHot_19 : decode cX7_setHot 19 = .ok (.dup, 1) := by decide +kernel
theorem dX7_setHot_20 : decode cX7_setHot 20 = .ok (.ldc 207, 2) := by decide +kernel
theorem dX7_setHot_22 : decode cX7_setHot 22 = .ok (.invokespecial 75, 3) := by decide +kernel
theorem dX7_setHot_25 : decode cX7_setHot 25 = .ok (.athrow, 1) := by decide +kernel
theorem dX7_setHot_26 : decode cX7_setHot 26 = .ok (.aload_n 0, 1) := by decide +kernel
theorem dX7_setHot_27 : decode cX7_setHot 27 = .ok (.getfield 51, 3) := by decide +kernel
theorem dX7_setHot_30 : decode cX7_setHot 30 = .ok (.aload_n 0, 1) := by decide +kernel
theorem dX7_setHot_31 : decode cX7_setHot 31 = .ok (.getfield 19, 3) := by decide +kernel
theorem dX7_setHot_34 : decode cX7_setHot 34 = .ok (.invokevirtual 168, 3) := by decide +kernel
theorem dX7_setHot_37 : decode cX7_setHot 37 = .ok (.aload_n 0, 1) := by decide +kernel
theorem dX7_setHot_38 : decode cX7_setHot 38 = .ok (.getfield 19, 3) := by decide +kernel
theorem dX7_setHot_41 : decode cX7_setHot 41 = .ok (.getfield 192, 3) := by decide +kernel
theorem dX7_setHot_44 : decode cX7_setHot 44 = .ok (.istore_n 2, 1) := by decide +kernel
theorem dX7_setHot_45 : decode cX7_setHot 45 = .ok (.aload_n 0, 1) := by decide +kernel
theorem dX7_setHot_46 : decode cX7_setHot 46 = .ok (.getfield 19, 3) := by decide +kernel
theorem dX7_setHot_49 : decode cX7_setHot 49 = .ok (.iload_n 1, 1) := by decide +kernel
theorem dX7_setHot_50 : decode cX7_setHot 50 = .ok (.putfield 192, 3) := by decide +kernel
theorem dX7_setHot_53 : decode cX7_setHot 53 = .ok (.iload_n 2, 1) := by decide +kernel
theorem dX7_setHot_54 : decode cX7_setHot 54 = .ok (.ireturn, 1) := by decide +kernel
theorem dX7_order_0 : decode cX7_order 0 = .ok (.aload_n 0, 1) := by decide +kernel
theorem dX7_order_1 : decode cX7_order 1 = .ok (.iload_n 1, 1) := by decide +kernel
theorem dX7_order_2 : decode cX7_order 2 = .ok (.invokevirtual 199, 3) := by decide +kernel
theorem dX7_order_5 : decode cX7_order 5 = .ok (.aload_n 0, 1) := by decide +kernel
theorem dX7_order_6 : decode cX7_order 6 = .ok (.getfield 19, 3) := by decide +kernel
theorem dX7_order_9 : decode cX7_order 9 = .ok (.getfield 204, 3) := by decide +kernel
theorem dX7_order_12 : decode cX7_order 12 = .ok (.iload_n 1, 1) := by decide +kernel
theorem dX7_order_13 : decode cX7_order 13 = .ok (.iaload, 1) := by decide +kernel
theorem dX7_order_14 : decode cX7_order 14 = .ok (.ireturn, 1) := by decide +kernel
theorem dX7_place_0 : decode cX7_place 0 = .ok (.aload_n 0, 1) := by decide +kernel
theorem dX7_place_1 : decode cX7_place 1 = .ok (.iload_n 1, 1) := by decide +kernel
theorem dX7_place_2 : decode cX7_place 2 = .ok (.invokevirtual 84, 3) := by decide +kernel
theorem dX7_place_5 : decode cX7_place 5 = .ok (.iload_n 2, 1) := by decide +kernel
theorem dX7_place_6 : decode cX7_place 6 = .ok (.iconst 3, 1) := by decide +kernel
theorem dX7_place_7 : decode cX7_place 7 = .ok (.invokestatic 209, 3) := by decide +kernel
theorem dX7_place_10 : decode cX7_place 10 = .ok (.aload_n 0, 1) := by decide +kernel
theorem dX7_place_11 : decode cX7_place 11 = .ok (.getfield 28, 3) := by decide +kernel
theorem dX7_place_14 : decode cX7_place 14 = .ok (.aload_n 0, 1) := by decide +kernel
theorem dX7_place_15 : decode cX7_place 15 = .ok (.getfield 19, 3) := by decide +kernel
theorem dX7_place_18 : decode cX7_place 18 = .ok (.getfield 140, 3) := by decide +kernel
theorem dX7_place_21 : decode cX7_place 21 = .ok (.aload_n 0, 1) := by decide +kernel
theorem dX7_place_22 : decode cX7_place 22 = .ok (.getfield 62, 3) := by decide +kernel
theorem dX7_place_25 : decode cX7_place 25 = .ok (.invokevirtual 143, 3) := by decide +kernel
theorem dX7_place_28 : decode cX7_place 28 = .ok (.iload_n 2, 1) := by decide +kernel
theorem dX7_place_29 : decode cX7_place 29 = .ok (.tableswitch 57 0 2 #[27, 37, 47], 27) := by decide +kernel
theorem dX7_place_56 : decode cX7_place 56 = .ok (.aload_n 0, 1) := by decide +kernel
theorem dX7_place_57 : decode cX7_place 57 = .ok (.getfield 28, 3) := by decide +kernel
theorem dX7_place_60 : decode cX7_place 60 = .ok (.getfield 212, 3) := by decide +kernel
theorem dX7_place_63 : decode cX7_place 63 = .ok (.iload_n 1, 1) := by decide +kernel
theorem dX7_place_64 : decode cX7_place 64 = .ok (.iaload, 1) := by decide +kernel
theorem dX7_place_65 : decode cX7_place 65 = .ok (.ireturn, 1) := by decide +kernel
theorem dX7_place_66 : decode cX7_place 66 = .ok (.aload_n 0, 1) := by decide +kernel
theorem dX7_place_67 : decode cX7_place 67 = .ok (.getfield 28, 3) := by decide +kernel
theorem dX7_place_70 : decode cX7_place 70 = .ok (.getfield 215, 3) := by decide +kernel
theorem dX7_place_73 : decode cX7_place 73 = .ok (.iload_n 1, 1) := by decide +kernel
theorem dX7_place_74 : decode cX7_place 74 = .ok (.iaload, 1) := by decide +kernel
theorem dX7_place_75 : decode cX7_place 75 = .ok (.ireturn, 1) := by decide +kernel
theorem dX7_place_76 : decode cX7_place 76 = .ok (.aload_n 0, 1) := by decide +kernel
theorem dX7_place_77 : decode cX7_place 77 = .ok (.getfield 28, 3) := by decide +kernel
theorem dX7_place_80 : decode cX7_place 80 = .ok (.getfield 218, 3) := by decide +kernel
theorem dX7_place_83 : decode cX7_place 83 = .ok (.iload_n 1, 1) := by decide +kernel
theorem dX7_place_84 : decode cX7_place 84 = .ok (.iaload, 1) := by decide +kernel
theorem dX7_place_85 : decode cX7_place 85 = .ok (.ireturn, 1) := by decide +kernel
theorem dX7_place_86 : decode cX7_place 86 = .ok (.aload_n 0, 1) := by decide +kernel
theorem dX7_place_87 : decode cX7_place 87 = .ok (.getfield 28, 3) := by decide +kernel
theorem dX7_place_90 : decode cX7_place 90 = .ok (.getfield 212, 3) := by decide +kernel
theorem dX7_place_93 : decode cX7_place 93 = .ok (.iload_n 1, 1) := by decide +kernel
theorem dX7_place_94 : decode cX7_place 94 = .ok (.iaload, 1) := by decide +kernel
theorem dX7_place_95 : decode cX7_place 95 = .ok (.aload_n 0, 1) := by decide +kernel
theorem dX7_place_96 : decode cX7_place 96 = .ok (.getfield 19, 3) := by decide +kernel
theorem dX7_place_99 : decode cX7_place 99 = .ok (.getfield 192, 3) := by decide +kernel
theorem dX7_place_102 : decode cX7_place 102 = .ok (.if_icmp .ge 7, 3) := by decide +kernel
theorem dX7_place_105 : decode cX7_place 105 = .ok (.iconst 1, 1) := by decide +kernel
theorem dX7_place_106 : decode cX7_place 106 = .ok (.goto 4, 3) := by decide +kernel
theorem dX7_place_109 : decode cX7_place 109 = .ok (.iconst 0, 1) := by decide +kernel
theorem dX7_place_110 : decode cX7_place 110 = .ok (.ireturn, 1) := by decide +kernel
theorem dX7_end_0 : decode cX7_end 0 = .ok (.aload_n 0, 1) := by decide +kernel
theorem dX7_end_1 : decode cX7_end 1 = .ok (.iload_n 1, 1) := by decide +kernel
theorem dX7_end_2 : decode cX7_end 2 = .ok (.invokevirtual 84, 3) := by decide +kernel
theorem dX7_end_5 : decode cX7_end 5 = .ok (.iload_n 2, 1) := by decide +kernel
theorem dX7_end_6 : decode cX7_end 6 = .ok (.iconst 3, 1) := by decide +kernel
theorem dX7_end_7 : decode cX7_end 7 = .ok (.invokestatic 209, 3) := by decide +kernel
theorem dX7_end_10 : decode cX7_end 10 = .ok (.aload_n 0, 1) := by decide +kernel
theorem dX7_end_11 : decode cX7_end 11 = .ok (.getfield 28, 3) := by decide +kernel
theorem dX7_end_14 : decode cX7_end 14 = .ok (.aload_n 0, 1) := by decide +kernel
theorem dX7_end_15 : decode cX7_end 15 = .ok (.getfield 19, 3) := by decide +kernel
theorem dX7_end_18 : decode cX7_end 18 = .ok (.getfield 140, 3) := by decide +kernel
theorem dX7_end_21 : decode cX7_end 21 = .ok (.aload_n 0, 1) := by decide +kernel
theorem dX7_end_22 : decode cX7_end 22 = .ok (.getfield 62, 3) := by decide +kernel
theorem dX7_end_25 : decode cX7_end 25 = .ok (.invokevirtual 143, 3) := by decide +kernel
theorem dX7_end_28 : decode cX7_end 28 = .ok (.iload_n 2, 1) := by decide +kernel
theorem dX7_end_29 : decode cX7_end 29 = .ok (.tableswitch 63 0 2 #[27, 37, 46], 27) := by decide +kernel
theorem dX7_end_56 : decode cX7_end 56 = .ok (.aload_n 0, 1) := by decide +kernel
theorem dX7_end_57 : decode cX7_end 57 = .ok (.getfield 28, 3) := by decide +kernel
theorem dX7_end_60 : decode cX7_end 60 = .ok (.getfield 221, 3) := by decide +kernel
theorem dX7_end_63 : decode cX7_end 63 = .ok (.iload_n 1, 1) := by decide +kernel
theorem dX7_end_64 : decode cX7_end 64 = .ok (.iaload, 1) := by decide +kernel
theorem dX7_end_65 : decode cX7_end 65 = .ok (.ireturn, 1) := by decide +kernel
theorem dX7_end_66 : decode cX7_end 66 = .ok (.aload_n 0, 1) := by decide +kernel
theorem dX7_end_67 : decode cX7_end 67 = .ok (.getfield 28, 3) := by decide +kernel
theorem dX7_end_70 : decode cX7_end 70 = .ok (.iload_n 1, 1) := by decide +kernel
theorem dX7_end_71 : decode cX7_end 71 = .ok (.invokevirtual 224, 3) := by decide +kernel
theorem dX7_end_74 : decode cX7_end 74 = .ok (.ireturn, 1) := by decide +kernel
theorem dX7_end_75 : decode cX7_end 75 = .ok (.aload_n 0, 1) := by decide +kernel
theorem dX7_end_76 : decode cX7_end 76 = .ok (.getfield 28, 3) := by decide +kernel
theorem dX7_end_79 : decode cX7_end 79 = .ok (.iload_n 1, 1) := by decide +kernel
theorem dX7_end_80 : decode cX7_end 80 = .ok (.invokevirtual 227, 3) := by decide +kernel
theorem dX7_end_83 : decode cX7_end 83 = .ok (.ifCond .eq 7, 3) := by decide +kernel
theorem dX7_end_86 : decode cX7_end 86 = .ok (.iconst 1, 1) := by decide +kernel
theorem dX7_end_87 : decode cX7_end 87 = .ok (.goto 4, 3) := by decide +kernel
theorem dX7_end_90 : decode cX7_end 90 = .ok (.iconst 0, 1) := by decide +kernel
theorem dX7_end_91 : decode cX7_end 91 = .ok (.ireturn, 1) := by decide +kernel
theorem dX7_end_92 : decode cX7_end 92 = .ok (.aload_n 0, 1) := by decide +kernel
theorem dX7_end_93 : decode cX7_end 93 = .ok (.getfield 28, 3) := by decide +kernel
theorem dX7_end_96 : decode cX7_end 96 = .ok (.iload_n 1, 1) := by decide +kernel
theorem dX7_end_97 : decode cX7_end 97 = .ok (.invokevirtual 230, 3) := by decide +kernel
theorem dX7_end_100 : decode cX7_end 100 = .ok (.ifCond .eq 7, 3) := by decide +kernel
theorem dX7_end_103 : decode cX7_end 103 = .ok (.iconst 1, 1) := by decide +kernel
theorem dX7_end_104 : decode cX7_end 104 = .ok (.goto 4, 3) := by decide +kernel
theorem dX7_end_107 : decode cX7_end 107 = .ok (.iconst 0, 1) := by decide +kernel
theorem dX7_end_108 : decode cX7_end 108 = .ok (.ireturn, 1) := by decide +kernel
theorem dX7_layout_0 : decode cX7_layout 0 = .ok (.iload_n 1, 1) := by decide +kernel
theorem dX7_layout_1 : decode cX7_layout 1 = .ok (.bipush 8, 2) := by decide +kernel
theorem dX7_layout_3 : decode cX7_layout 3 = .ok (.invokestatic 209, 3) := by decide +kernel
theorem dX7_layout_6 : decode cX7_layout 6 = .ok (.aload_n 0, 1) := by decide +kernel
theorem dX7_layout_7 : decode cX7_layout 7 = .ok (.getfield 28, 3) := by decide +kernel
theorem dX7_layout_10 : decode cX7_layout 10 = .ok (.aload_n 0, 1) := by decide +kernel
theorem dX7_layout_11 : decode cX7_layout 11 = .ok (.getfield 19, 3) := by decide +kernel
theorem dX7_layout_14 : decode cX7_layout 14 = .ok (.getfield 140, 3) := by decide +kernel
theorem dX7_layout_17 : decode cX7_layout 17 = .ok (.aload_n 0, 1) := by decide +kernel
theorem dX7_layout_18 : decode cX7_layout 18 = .ok (.getfield 62, 3) := by decide +kernel
theorem dX7_layout_21 : decode cX7_layout 21 = .ok (.invokevirtual 143, 3) := by decide +kernel
theorem dX7_layout_24 : decode cX7_layout 24 = .ok (.iload_n 1, 1) := by decide +kernel
theorem dX7_layout_25 : decode cX7_layout 25 = .ok (.tableswitch 119 0 7 #[47, 55, 63, 71, 79, 87, 102, 111], 47) := by decide +kernel
theorem dX7_layout_72 : decode cX7_layout 72 = .ok (.aload_n 0, 1) := by decide +kernel
theorem dX7_layout_73 : decode cX7_layout 73 = .ok (.getfield 28, 3) := by decide +kernel
theorem dX7_layout_76 : decode cX7_layout 76 = .ok (.getfield 233, 3) := by decide +kernel
theorem dX7_layout_79 : decode cX7_layout 79 = .ok (.ireturn, 1) := by decide +kernel
theorem dX7_layout_80 : decode cX7_layout 80 = .ok (.aload_n 0, 1) := by decide +kernel
theorem dX7_layout_81 : decode cX7_layout 81 = .ok (.getfield 28, 3) := by decide +kernel
theorem dX7_layout_84 : decode cX7_layout 84 = .ok (.getfield 236, 3) := by decide +kernel
theorem dX7_layout_87 : decode cX7_layout 87 = .ok (.ireturn, 1) := by decide +kernel
theorem dX7_layout_88 : decode cX7_layout 88 = .ok (.aload_n 0, 1) := by decide +kernel
theorem dX7_layout_89 : decode cX7_layout 89 = .ok (.getfield 19, 3) := by decide +kernel
theorem dX7_layout_92 : decode cX7_layout 92 = .ok (.getfield 192, 3) := by decide +kernel
theorem dX7_layout_95 : decode cX7_layout 95 = .ok (.ireturn, 1) := by decide +kernel
theorem dX7_layout_96 : decode cX7_layout 96 = .ok (.aload_n 0, 1) := by decide +kernel
theorem dX7_layout_97 : decode cX7_layout 97 = .ok (.getfield 28, 3) := by decide +kernel
theorem dX7_layout_100 : decode cX7_layout 100 = .ok (.invokevirtual 239, 3) := by decide +kernel
theorem dX7_layout_103 : decode cX7_layout 103 = .ok (.ireturn, 1) := by decide +kernel
theorem dX7_layout_104 : decode cX7_layout 104 = .ok (.aload_n 0, 1) := by decide +kernel
theorem dX7_layout_105 : decode cX7_layout 105 = .ok (.getfield 28, 3) := by decide +kernel
theorem dX7_layout_108 : decode cX7_layout 108 = .ok (.invokevirtual 242, 3) := by decide +kernel
theorem dX7_layout_111 : decode cX7_layout 111 = .ok (.ireturn, 1) := by decide +kernel
theorem dX7_layout_112 : decode cX7_layout 112 = .ok (.aload_n 0, 1) := by decide +kernel
theorem dX7_layout_113 : decode cX7_layout 113 = .ok (.getfield 28, 3) := by decide +kernel
theorem dX7_layout_116 : decode cX7_layout 116 = .ok (.aload_n 0, 1) := by decide +kernel
theorem dX7_layout_117 : decode cX7_layout 117 = .ok (.getfield 12, 3) := by decide +kernel
theorem dX7_layout_120 : decode cX7_layout 120 = .ok (.getfield 78, 3) := by decide +kernel
theorem dX7_layout_123 : decode cX7_layout 123 = .ok (.invokevirtual 195, 3) := by decide +kernel
theorem dX7_layout_126 : decode cX7_layout 126 = .ok (.ireturn, 1) := by decide +kernel
theorem dX7_layout_127 : decode cX7_layout 127 = .ok (.aload_n 0, 1) := by decide +kernel
theorem dX7_layout_128 : decode cX7_layout 128 = .ok (.getfield 28, 3) := by decide +kernel
theorem dX7_layout_131 : decode cX7_layout 131 = .ok (.iconst 3, 1) := by decide +kernel
theorem dX7_layout_132 : decode cX7_layout 132 = .ok (.invokevirtual 245, 3) := by decide +kernel
theorem dX7_layout_135 : decode cX7_layout 135 = .ok (.ireturn, 1) := by decide +kernel
theorem dX7_layout_136 : decode cX7_layout 136 = .ok (.aload_n 0, 1) := by decide +kernel
theorem dX7_layout_137 : decode cX7_layout 137 = .ok (.getfield 19, 3) := by decide +kernel
theorem dX7_layout_140 : decode cX7_layout 140 = .ok (.getfield 140, 3) := by decide +kernel
theorem dX7_layout_143 : decode cX7_layout 143 = .ok (.ireturn, 1) := by decide +kernel
theorem dX7_layout_144 : decode cX7_layout 144 = .ok (.aload_n 0, 1) := by decide +kernel
theorem dX7_layout_145 : decode cX7_layout 145 = .ok (.getfield 62, 3) := by decide +kernel
theorem dX7_layout_148 : decode cX7_layout 148 = .ok (.ireturn, 1) := by decide +kernel
theorem dX7_cycles_0 : decode cX7_cycles 0 = .ok (.aload_n 0, 1) := by decide +kernel
theorem dX7_cycles_1 : decode cX7_cycles 1 = .ok (.aload_n 0, 1) := by decide +kernel
theorem dX7_cycles_2 : decode cX7_cycles 2 = .ok (.getfield 19, 3) := by decide +kernel
theorem dX7_cycles_5 : decode cX7_cycles 5 = .ok (.getfield 140, 3) := by decide +kernel
theorem dX7_cycles_8 : decode cX7_cycles 8 = .ok (.invokevirtual 248, 3) := by decide +kernel
theorem dX7_cycles_11 : decode cX7_cycles 11 = .ok (.ireturn, 1) := by decide +kernel
theorem dX7_meanCycles_0 : decode cX7_meanCycles 0 = .ok (.aload_n 0, 1) := by decide +kernel
theorem dX7_meanCycles_1 : decode cX7_meanCycles 1 = .ok (.getfield 12, 3) := by decide +kernel
theorem dX7_meanCycles_4 : decode cX7_meanCycles 4 = .ok (.invokevirtual 159, 3) := by decide +kernel
theorem dX7_meanCycles_7 : decode cX7_meanCycles 7 = .ok (.istore_n 1, 1) := by decide +kernel
theorem dX7_meanCycles_8 : decode cX7_meanCycles 8 = .ok (.iload_n 1, 1) := by decide +kernel
theorem dX7_meanCycles_9 : decode cX7_meanCycles 9 = .ok (.ifCond .ne 13, 3) := by decide +kernel
theorem dX7_meanCycles_12 : decode cX7_meanCycles 12 = .ok (.new 251, 3) := by decide +kernel
theorem dX7_meanCycles_15 : decode cX7_meanCycles 15 = .ok (.dup, 1) := by decide +kernel
theorem dX7_meanCycles_16 : decode cX7_meanCycles 16 = .ok (.ldc 253, 2) := by decide +kernel
theorem dX7_meanCycles_18 : decode cX7_meanCycles 18 = .ok (.invokespecial 255, 3) := by decide +kernel
theorem dX7_meanCycles_21 : decode cX7_meanCycles 21 = .ok (.athrow, 1) := by decide +kernel
theorem dX7_meanCycles_22 : decode cX7_meanCycles 22 = .ok (.aload_n 0, 1) := by decide +kernel
theorem dX7_meanCycles_23 : decode cX7_meanCycles 23 = .ok (.aload_n 0, 1) := by decide +kernel
theorem dX7_meanCycles_24 : decode cX7_meanCycles 24 = .ok (.getfield 19, 3) := by decide +kernel
theorem dX7_meanCycles_27 : decode cX7_meanCycles 27 = .ok (.getfield 140, 3) := by decide +kernel
theorem dX7_meanCycles_30 : decode cX7_meanCycles 30 = .ok (.invokevirtual 248, 3) := by decide +kernel
theorem dX7_meanCycles_33 : decode cX7_meanCycles 33 = .ok (.i2d, 1) := by decide +kernel
theorem dX7_meanCycles_34 : decode cX7_meanCycles 34 = .ok (.iload_n 1, 1) := by decide +kernel
theorem dX7_meanCycles_35 : decode cX7_meanCycles 35 = .ok (.i2d, 1) := by decide +kernel
theorem dX7_meanCycles_36 : decode cX7_meanCycles 36 = .ok (.ddiv, 1) := by decide +kernel
theorem dX7_meanCycles_37 : decode cX7_meanCycles 37 = .ok (.dreturn, 1) := by decide +kernel
theorem dX7_bestAlignment_0 : decode cX7_bestAlignment 0 = .ok (.iconst 1, 1) := by decide +kernel
theorem dX7_bestAlignment_1 : decode cX7_bestAlignment 1 = .ok (.istore_n 1, 1) := by decide +kernel
theorem dX7_bestAlignment_2 : decode cX7_bestAlignment 2 = .ok (.aload_n 0, 1) := by decide +kernel
theorem dX7_bestAlignment_3 : decode cX7_bestAlignment 3 = .ok (.iconst 1, 1) := by decide +kernel
theorem dX7_bestAlignment_4 : decode cX7_bestAlignment 4 = .ok (.invokevirtual 248, 3) := by decide +kernel
theorem dX7_bestAlignment_7 : decode cX7_bestAlignment 7 = .ok (.istore_n 2, 1) := by decide +kernel
theorem dX7_bestAlignment_8 : decode cX7_bestAlignment 8 = .ok (.aload_n 0, 1) := by decide +kernel
theorem dX7_bestAlignment_9 : decode cX7_bestAlignment 9 = .ok (.getfield 28, 3) := by decide +kernel
theorem dX7_bestAlignment_12 : decode cX7_bestAlignment 12 = .ok (.getfield 236, 3) := by decide +kernel
theorem dX7_bestAlignment_15 : decode cX7_bestAlignment 15 = .ok (.istore_n 3, 1) := by decide +kernel
theorem dX7_bestAlignment_16 : decode cX7_bestAlignment 16 = .ok (.iconst 2, 1) := by decide +kernel
theorem dX7_bestAlignment_17 : decode cX7_bestAlignment 17 = .ok (.istore 4, 2) := by decide +kernel
theorem dX7_bestAlignment_19 : decode cX7_bestAlignment 19 = .ok (.iload 4, 2) := by decide +kernel
theorem dX7_bestAlignment_21 : decode cX7_bestAlignment 21 = .ok (.bipush 32, 2) := by decide +kernel
theorem dX7_bestAlignment_23 : decode cX7_bestAlignment 23 = .ok (.if_icmp .gt 69, 3) := by decide +kernel
theorem dX7_bestAlignment_26 : decode cX7_bestAlignment 26 = .ok (.aload_n 0, 1) := by decide +kernel
theorem dX7_bestAlignment_27 : decode cX7_bestAlignment 27 = .ok (.iload 4, 2) := by decide +kernel
theorem dX7_bestAlignment_29 : decode cX7_bestAlignment 29 = .ok (.invokevirtual 248, 3) := by decide +kernel
theorem dX7_bestAlignment_32 : decode cX7_bestAlignment 32 = .ok (.istore 5, 2) := by decide +kernel
theorem dX7_bestAlignment_34 : decode cX7_bestAlignment 34 = .ok (.iload 5, 2) := by decide +kernel
theorem dX7_bestAlignment_36 : decode cX7_bestAlignment 36 = .ok (.iload_n 2, 1) := by decide +kernel
theorem dX7_bestAlignment_37 : decode cX7_bestAlignment 37 = .ok (.if_icmp .ne 18, 3) := by decide +kernel
theorem dX7_bestAlignment_40 : decode cX7_bestAlignment 40 = .ok (.aload_n 0, 1) := by decide +kernel
theorem dX7_bestAlignment_41 : decode cX7_bestAlignment 41 = .ok (.getfield 28, 3) := by decide +kernel
theorem dX7_bestAlignment_44 : decode cX7_bestAlignment 44 = .ok (.getfield 236, 3) := by decide +kernel
theorem dX7_bestAlignment_47 : decode cX7_bestAlignment 47 = .ok (.iload_n 3, 1) := by decide +kernel
theorem dX7_bestAlignment_48 : decode cX7_bestAlignment 48 = .ok (.if_icmp .ge 7, 3) := by decide +kernel
theorem dX7_bestAlignment_51 : decode cX7_bestAlignment 51 = .ok (.iconst 1, 1) := by decide +kernel
theorem dX7_bestAlignment_52 : decode cX7_bestAlignment 52 = .ok (.goto 4, 3) := by decide +kernel
theorem dX7_bestAlignment_55 : decode cX7_bestAlignment 55 = .ok (.iconst 0, 1) := by decide +kernel
theorem dX7_bestAlignment_56 : decode cX7_bestAlignment 56 = .ok (.istore 6, 2) := by decide +kernel
theorem dX7_bestAlignment_58 : decode cX7_bestAlignment 58 = .ok (.iload 5, 2) := by decide +kernel
theorem dX7_bestAlignment_60 : decode cX7_bestAlignment 60 = .ok (.iload_n 2, 1) := by decide +kernel
theorem dX7_bestAlignment_61 : decode cX7_bestAlignment 61 = .ok (.if_icmp .lt 8, 3) := by decide +kernel
theorem dX7_bestAlignment_64 : decode cX7_bestAlignment 64 = .ok (.iload 6, 2) := by decide +kernel
theorem dX7_bestAlignment_66 : decode cX7_bestAlignment 66 = .ok (.ifCond .eq 17, 3) := by decide +kernel
theorem dX7_bestAlignment_69 : decode cX7_bestAlignment 69 = .ok (.iload 4, 2) := by decide +kernel
theorem dX7_bestAlignment_71 : decode cX7_bestAlignment 71 = .ok (.istore_n 1, 1) := by decide +kernel
theorem dX7_bestAlignment_72 : decode cX7_bestAlignment 72 = .ok (.iload 5, 2) := by decide +kernel
theorem dX7_bestAlignment_74 : decode cX7_bestAlignment 74 = .ok (.istore_n 2, 1) := by decide +kernel
theorem dX7_bestAlignment_75 : decode cX7_bestAlignment 75 = .ok (.aload_n 0, 1) := by decide +kernel
theorem dX7_bestAlignment_76 : decode cX7_bestAlignment 76 = .ok (.getfield 28, 3) := by decide +kernel
theorem dX7_bestAlignment_79 : decode cX7_bestAlignment 79 = .ok (.getfield 236, 3) := by decide +kernel
theorem dX7_bestAlignment_82 : decode cX7_bestAlignment 82 = .ok (.istore_n 3, 1) := by decide +kernel
theorem dX7_bestAlignment_83 : decode cX7_bestAlignment 83 = .ok (.iload 4, 2) := by decide +kernel
theorem dX7_bestAlignment_85 : decode cX7_bestAlignment 85 = .ok (.iconst 2, 1) := by decide +kernel
theorem dX7_bestAlignment_86 : decode cX7_bestAlignment 86 = .ok (.imul, 1) := by decide +kernel
theorem dX7_bestAlignment_87 : decode cX7_bestAlignment 87 = .ok (.istore 4, 2) := by decide +kernel
theorem dX7_bestAlignment_89 : decode cX7_bestAlignment 89 = .ok (.goto (-70), 3) := by decide +kernel
theorem dX7_bestAlignment_92 : decode cX7_bestAlignment 92 = .ok (.iload_n 1, 1) := by decide +kernel
theorem dX7_bestAlignment_93 : decode cX7_bestAlignment 93 = .ok (.ireturn, 1) := by decide +kernel
theorem dX7_feed_0 : decode cX7_feed 0 = .ok (.aload_n 0, 1) := by decide +kernel
theorem dX7_feed_1 : decode cX7_feed 1 = .ok (.getfield 58, 3) := by decide +kernel
theorem dX7_feed_4 : decode cX7_feed 4 = .ok (.iload_n 1, 1) := by decide +kernel
theorem dX7_feed_5 : decode cX7_feed 5 = .ok (.invokevirtual 256, 3) := by decide +kernel
theorem dX7_feed_8 : decode cX7_feed 8 = .ok (.ifCond .ne 14, 3) := by decide +kernel
theorem dX7_feed_11 : decode cX7_feed 11 = .ok (.new 260, 3) := by decide +kernel
theorem dX7_feed_14 : decode cX7_feed 14 = .ok (.dup, 1) := by decide +kernel
theorem dX7_feed_15 : decode cX7_feed 15 = .ok (.ldc_w 262, 3) := by decide +kernel
theorem dX7_feed_18 : decode cX7_feed 18 = .ok (.invokespecial 264, 3) := by decide +kernel
theorem dX7_feed_21 : decode cX7_feed 21 = .ok (.athrow, 1) := by decide +kernel
theorem dX7_feed_22 : decode cX7_feed 22 = .ok (.aload_n 0, 1) := by decide +kernel
theorem dX7_feed_23 : decode cX7_feed 23 = .ok (.getfield 58, 3) := by decide +kernel
theorem dX7_feed_26 : decode cX7_feed 26 = .ok (.getfield 265, 3) := by decide +kernel
theorem dX7_feed_29 : decode cX7_feed 29 = .ok (.ireturn, 1) := by decide +kernel
theorem dX7_read_0 : decode cX7_read 0 = .ok (.aload_n 0, 1) := by decide +kernel
theorem dX7_read_1 : decode cX7_read 1 = .ok (.iload_n 1, 1) := by decide +kernel
theorem dX7_read_2 : decode cX7_read 2 = .ok (.invokevirtual 84, 3) := by decide +kernel
theorem dX7_read_5 : decode cX7_read 5 = .ok (.aload_n 0, 1) := by decide +kernel
theorem dX7_read_6 : decode cX7_read 6 = .ok (.getfield 58, 3) := by decide +kernel
theorem dX7_read_9 : decode cX7_read 9 = .ok (.invokevirtual 266, 3) := by decide +kernel
theorem dX7_read_12 : decode cX7_read 12 = .ok (.istore_n 2, 1) := by decide +kernel
theorem dX7_read_13 : decode cX7_read 13 = .ok (.aload_n 0, 1) := by decide +kernel
theorem dX7_read_14 : decode cX7_read 14 = .ok (.getfield 58, 3) := by decide +kernel
theorem dX7_read_17 : decode cX7_read 17 = .ok (.iconst 0, 1) := by decide +kernel
theorem dX7_read_18 : decode cX7_read 18 = .ok (.putfield 265, 3) := by decide +kernel
theorem dX7_read_21 : decode cX7_read 21 = .ok (.iload_n 2, 1) := by decide +kernel
theorem dX7_read_22 : decode cX7_read 22 = .ok (.ifCond .ne 14, 3) := by decide +kernel
theorem dX7_read_25 : decode cX7_read 25 = .ok (.bipush (-100), 2) := by decide +kernel
theorem dX7_read_27 : decode cX7_read 27 = .ok (.aload_n 0, 1) := by decide +kernel
theorem dX7_read_28 : decode cX7_read 28 = .ok (.getfield 58, 3) := by decide +kernel
theorem dX7_read_31 : decode cX7_read 31 = .ok (.getfield 270, 3) := by decide +kernel
theorem dX7_read_34 : decode cX7_read 34 = .ok (.isub, 1) := by decide +kernel
theorem dX7_read_35 : decode cX7_read 35 = .ok (.ireturn, 1) := by decide +kernel
theorem dX7_read_36 : decode cX7_read 36 = .ok (.aload_n 0, 1) := by decide +kernel
theorem dX7_read_37 : decode cX7_read 37 = .ok (.getfield 58, 3) := by decide +kernel
theorem dX7_read_40 : decode cX7_read 40 = .ok (.getfield 273, 3) := by decide +kernel
theorem dX7_read_43 : decode cX7_read 43 = .ok (.bipush 60, 2) := by decide +kernel
theorem dX7_read_45 : decode cX7_read 45 = .ok (.if_icmp .gt 10, 3) := by decide +kernel
theorem dX7_read_48 : decode cX7_read 48 = .ok (.aload_n 0, 1) := by decide +kernel
theorem dX7_read_49 : decode cX7_read 49 = .ok (.invokevirtual 275, 3) := by decide +kernel
theorem dX7_read_52 : decode cX7_read 52 = .ok (.ifCond .ne 14, 3) := by decide +kernel
theorem dX7_read_55 : decode cX7_read 55 = .ok (.new 71, 3) := by decide +kernel
theorem dX7_read_58 : decode cX7_read 58 = .ok (.dup, 1) := by decide +kernel
theorem dX7_read_59 : decode cX7_read 59 = .ok (.ldc_w 278, 3) := by decide +kernel
theorem dX7_read_62 : decode cX7_read 62 = .ok (.invokespecial 75, 3) := by decide +kernel
theorem dX7_read_65 : decode cX7_read 65 = .ok (.athrow, 1) := by decide +kernel
theorem dX7_read_66 : decode cX7_read 66 = .ok (.aload_n 0, 1) := by decide +kernel
theorem dX7_read_67 : decode cX7_read 67 = .ok (.getfield 12, 3) := by decide +kernel
theorem dX7_read_70 : decode cX7_read 70 = .ok (.getfield 89, 3) := by decide +kernel
theorem dX7_read_73 : decode cX7_read 73 = .ok (.iload_n 1, 1) := by decide +kernel
theorem dX7_read_74 : decode cX7_read 74 = .ok (.aload_n 0, 1) := by decide +kernel
theorem dX7_read_75 : decode cX7_read 75 = .ok (.getfield 58, 3) := by decide +kernel
theorem dX7_read_78 : decode cX7_read 78 = .ok (.getfield 273, 3) := by decide +kernel
theorem dX7_read_81 : decode cX7_read 81 = .ok (.iastore, 1) := by decide +kernel
theorem dX7_read_82 : decode cX7_read 82 = .ok (.aload_n 0, 1) := by decide +kernel
theorem dX7_read_83 : decode cX7_read 83 = .ok (.getfield 12, 3) := by decide +kernel
theorem dX7_read_86 : decode cX7_read 86 = .ok (.iload_n 1, 1) := by decide +kernel
theorem dX7_read_87 : decode cX7_read 87 = .ok (.aload_n 0, 1) := by decide +kernel
theorem dX7_read_88 : decode cX7_read 88 = .ok (.getfield 58, 3) := by decide +kernel
theorem dX7_read_91 : decode cX7_read 91 = .ok (.getfield 280, 3) := by decide +kernel
theorem dX7_read_94 : decode cX7_read 94 = .ok (.aload_n 0, 1) := by decide +kernel
theorem dX7_read_95 : decode cX7_read 95 = .ok (.getfield 58, 3) := by decide +kernel
theorem dX7_read_98 : decode cX7_read 98 = .ok (.getfield 282, 3) := by decide +kernel
theorem dX7_read_101 : decode cX7_read 101 = .ok (.aload_n 0, 1) := by decide +kernel
theorem dX7_read_102 : decode cX7_read 102 = .ok (.getfield 58, 3) := by decide +kernel
theorem dX7_read_105 : decode cX7_read 105 = .ok (.getfield 284, 3) := by decide +kernel
theorem dX7_read_108 : decode cX7_read 108 = .ok (.aload_n 0, 1) := by decide +kernel
theorem dX7_read_109 : decode cX7_read 109 = .ok (.getfield 58, 3) := by decide +kernel
theorem dX7_read_112 : decode cX7_read 112 = .ok (.getfield 286, 3) := by decide +kernel
theorem dX7_read_115 : decode cX7_read 115 = .ok (.invokevirtual 93, 3) := by decide +kernel
theorem dX7_read_118 : decode cX7_read 118 = .ok (.pop, 1) := by decide +kernel
theorem dX7_read_119 : decode cX7_read 119 = .ok (.aload_n 0, 1) := by decide +kernel
theorem dX7_read_120 : decode cX7_read 120 = .ok (.getfield 58, 3) := by decide +kernel
theorem dX7_read_123 : decode cX7_read 123 = .ok (.getfield 280, 3) := by decide +kernel
theorem dX7_read_126 : decode cX7_read 126 = .ok (.ireturn, 1) := by decide +kernel
theorem dX7_undo_0 : decode cX7_undo 0 = .ok (.aload_n 0, 1) := by decide +kernel
theorem dX7_undo_1 : decode cX7_undo 1 = .ok (.getfield 51, 3) := by decide +kernel
theorem dX7_undo_4 : decode cX7_undo 4 = .ok (.aload_n 0, 1) := by decide +kernel
theorem dX7_undo_5 : decode cX7_undo 5 = .ok (.getfield 19, 3) := by decide +kernel
theorem dX7_undo_8 : decode cX7_undo 8 = .ok (.invokevirtual 289, 3) := by decide +kernel
theorem dX7_undo_11 : decode cX7_undo 11 = .ok (.ifCond .ne 14, 3) := by decide +kernel
theorem dX7_undo_14 : decode cX7_undo 14 = .ok (.new 293, 3) := by decide +kernel
theorem dX7_undo_17 : decode cX7_undo 17 = .ok (.dup, 1) := by decide +kernel
theorem dX7_undo_18 : decode cX7_undo 18 = .ok (.ldc_w 295, 3) := by decide +kernel
theorem dX7_undo_21 : decode cX7_undo 21 = .ok (.invokespecial 297, 3) := by decide +kernel
theorem dX7_undo_24 : decode cX7_undo 24 = .ok (.athrow, 1) := by decide +kernel
theorem dX7_undo_25 : decode cX7_undo 25 = .ok (.aload_n 0, 1) := by decide +kernel
theorem dX7_undo_26 : decode cX7_undo 26 = .ok (.getfield 51, 3) := by decide +kernel
theorem dX7_undo_29 : decode cX7_undo 29 = .ok (.getfield 298, 3) := by decide +kernel
theorem dX7_undo_32 : decode cX7_undo 32 = .ok (.ireturn, 1) := by decide +kernel
theorem dX7_checkBlock_0 : decode cX7_checkBlock 0 = .ok (.aload_n 0, 1) := by decide +kernel
theorem dX7_checkBlock_1 : decode cX7_checkBlock 1 = .ok (.getfield 12, 3) := by decide +kernel
theorem dX7_checkBlock_4 : decode cX7_checkBlock 4 = .ok (.iload_n 1, 1) := by decide +kernel
theorem dX7_checkBlock_5 : decode cX7_checkBlock 5 = .ok (.invokevirtual 301, 3) := by decide +kernel
theorem dX7_checkBlock_8 : decode cX7_checkBlock 8 = .ok (.ifCond .ne 14, 3) := by decide +kernel
theorem dX7_checkBlock_11 : decode cX7_checkBlock 11 = .ok (.new 151, 3) := by decide +kernel
theorem dX7_checkBlock_14 : decode cX7_checkBlock 14 = .ok (.dup, 1) := by decide +kernel
theorem dX7_checkBlock_15 : decode cX7_checkBlock 15 = .ok (.ldc_w 304, 3) := by decide +kernel
theorem dX7_checkBlock_18 : decode cX7_checkBlock 18 = .ok (.invokespecial 155, 3) := by decide +kernel
theorem dX7_checkBlock_21 : decode cX7_checkBlock 21 = .ok (.athrow, 1) := by decide +kernel
theorem dX7_checkBlock_22 : decode cX7_checkBlock 22 = .ok (.return_, 1) := by decide +kernel
theorem dX7_checkPosition_0 : decode cX7_checkPosition 0 = .ok (.aload_n 0, 1) := by decide +kernel
theorem dX7_checkPosition_1 : decode cX7_checkPosition 1 = .ok (.getfield 12, 3) := by decide +kernel
theorem dX7_checkPosition_4 : decode cX7_checkPosition 4 = .ok (.iload_n 1, 1) := by decide +kernel
theorem dX7_checkPosition_5 : decode cX7_checkPosition 5 = .ok (.invokevirtual 301, 3) := by decide +kernel
theorem dX7_checkPosition_8 : decode cX7_checkPosition 8 = .ok (.ifCond .ne 14, 3) := by decide +kernel
theorem dX7_checkPosition_11 : decode cX7_checkPosition 11 = .ok (.new 151, 3) := by decide +kernel
theorem dX7_checkPosition_14 : decode cX7_checkPosition 14 = .ok (.dup, 1) := by decide +kernel
theorem dX7_checkPosition_15 : decode cX7_checkPosition 15 = .ok (.ldc_w 306, 3) := by decide +kernel
theorem dX7_checkPosition_18 : decode cX7_checkPosition 18 = .ok (.invokespecial 155, 3) := by decide +kernel
theorem dX7_checkPosition_21 : decode cX7_checkPosition 21 = .ok (.athrow, 1) := by decide +kernel
theorem dX7_checkPosition_22 : decode cX7_checkPosition 22 = .ok (.return_, 1) := by decide +kernel
theorem dX7_checkWhat_0 : decode cX7_checkWhat 0 = .ok (.iload_n 0, 1) := by decide +kernel
theorem dX7_checkWhat_1 : decode cX7_checkWhat 1 = .ok (.ifCond .lt 8, 3) := by decide +kernel
theorem dX7_checkWhat_4 : decode cX7_checkWhat 4 = .ok (.iload_n 0, 1) := by decide +kernel
theorem dX7_checkWhat_5 : decode cX7_checkWhat 5 = .ok (.iload_n 1, 1) := by decide +kernel
theorem dX7_checkWhat_6 : decode cX7_checkWhat 6 = .ok (.if_icmp .le 14, 3) := by decide +kernel
theorem dX7_checkWhat_9 : decode cX7_checkWhat 9 = .ok (.new 71, 3) := by decide +kernel
theorem dX7_checkWhat_12 : decode cX7_checkWhat 12 = .ok (.dup, 1) := by decide +kernel
theorem dX7_checkWhat_13 : decode cX7_checkWhat 13 = .ok (.ldc_w 308, 3) := by decide +kernel
theorem dX7_checkWhat_16 : decode cX7_checkWhat 16 = .ok (.invokespecial 75, 3) := by decide +kernel
theorem dX7_checkWhat_19 : decode cX7_checkWhat 19 = .ok (.athrow, 1) := by decide +kernel
theorem dX7_checkWhat_20 : decode cX7_checkWhat 20 = .ok (.return_, 1) := by decide +kernel
theorem dX7_executeWithin_0 : decode cX7_executeWithin 0 = .ok (.iload_n 1, 1) := by decide +kernel
theorem dX7_executeWithin_1 : decode cX7_executeWithin 1 = .ok (.iconst 1, 1) := by decide +kernel
theorem dX7_executeWithin_2 : decode cX7_executeWithin 2 = .ok (.if_icmp .lt 10, 3) := by decide +kernel
theorem dX7_executeWithin_5 : decode cX7_executeWithin 5 = .ok (.iload_n 1, 1) := by decide +kernel
theorem dX7_executeWithin_6 : decode cX7_executeWithin 6 = .ok (.sipush 500, 3) := by decide +kernel
theorem dX7_executeWithin_9 : decode cX7_executeWithin 9 = .ok (.if_icmp .le 14, 3) := by decide +kernel
theorem dX7_executeWithin_12 : decode cX7_executeWithin 12 = .ok (.new 71, 3) := by decide +kernel
theorem dX7_executeWithin_15 : decode cX7_executeWithin 15 = .ok (.dup, 1) := by decide +kernel
theorem dX7_executeWithin_16 : decode cX7_executeWithin 16 = .ok (.ldc_w 310, 3) := by decide +kernel
theorem dX7_executeWithin_19 : decode cX7_executeWithin 19 = .ok (.invokespecial 75, 3) := by decide +kernel
theorem dX7_executeWithin_22 : decode cX7_executeWithin 22 = .ok (.athrow, 1) := by decide +kernel
theorem dX7_executeWithin_23 : decode cX7_executeWithin 23 = .ok (.aload_n 0, 1) := by decide +kernel
theorem dX7_executeWithin_24 : decode cX7_executeWithin 24 = .ok (.getfield 44, 3) := by decide +kernel
theorem dX7_executeWithin_27 : decode cX7_executeWithin 27 = .ok (.iload_n 1, 1) := by decide +kernel
theorem dX7_executeWithin_28 : decode cX7_executeWithin 28 = .ok (.invokevirtual 312, 3) := by decide +kernel
theorem dX7_executeWithin_31 : decode cX7_executeWithin 31 = .ok (.ifCond .ne 14, 3) := by decide +kernel
theorem dX7_executeWithin_34 : decode cX7_executeWithin 34 = .ok (.new 251, 3) := by decide +kernel
theorem dX7_executeWithin_37 : decode cX7_executeWithin 37 = .ok (.dup, 1) := by decide +kernel
theorem dX7_executeWithin_38 : decode cX7_executeWithin 38 = .ok (.ldc_w 315, 3) := by decide +kernel
theorem dX7_executeWithin_41 : decode cX7_executeWithin 41 = .ok (.invokespecial 255, 3) := by decide +kernel
theorem dX7_executeWithin_44 : decode cX7_executeWithin 44 = .ok (.athrow, 1) := by decide +kernel
theorem dX7_executeWithin_45 : decode cX7_executeWithin 45 = .ok (.return_, 1) := by decide +kernel
theorem dX7_cyclesAligned_0 : decode cX7_cyclesAligned 0 = .ok (.aload_n 0, 1) := by decide +kernel
theorem dX7_cyclesAligned_1 : decode cX7_cyclesAligned 1 = .ok (.getfield 28, 3) := by decide +kernel
theorem dX7_cyclesAligned_4 : decode cX7_cyclesAligned 4 = .ok (.iload_n 1, 1) := by decide +kernel
theorem dX7_cyclesAligned_5 : decode cX7_cyclesAligned 5 = .ok (.aload_n 0, 1) := by decide +kernel
theorem dX7_cyclesAligned_6 : decode cX7_cyclesAligned 6 = .ok (.getfield 62, 3) := by decide +kernel
theorem dX7_cyclesAligned_9 : decode cX7_cyclesAligned 9 = .ok (.invokevirtual 143, 3) := by decide +kernel
theorem dX7_cyclesAligned_12 : decode cX7_cyclesAligned 12 = .ok (.aload_n 0, 1) := by decide +kernel
theorem dX7_cyclesAligned_13 : decode cX7_cyclesAligned 13 = .ok (.getfield 28, 3) := by decide +kernel
theorem dX7_cyclesAligned_16 : decode cX7_cyclesAligned 16 = .ok (.invokevirtual 317, 3) := by decide +kernel
theorem dX7_cyclesAligned_19 : decode cX7_cyclesAligned 19 = .ok (.ireturn, 1) := by decide +kernel
theorem dX7_areTargetsFit_0 : decode cX7_areTargetsFit 0 = .ok (.aload_n 0, 1) := by decide +kernel
theorem dX7_areTargetsFit_1 : decode cX7_areTargetsFit 1 = .ok (.getfield 58, 3) := by decide +kernel
theorem dX7_areTargetsFit_4 : decode cX7_areTargetsFit 4 = .ok (.getfield 280, 3) := by decide +kernel
theorem dX7_areTargetsFit_7 : decode cX7_areTargetsFit 7 = .ok (.ifCond .ne 18, 3) := by decide +kernel
theorem dX7_areTargetsFit_10 : decode cX7_areTargetsFit 10 = .ok (.aload_n 0, 1) := by decide +kernel
theorem dX7_areTargetsFit_11 : decode cX7_areTargetsFit 11 = .ok (.getfield 12, 3) := by decide +kernel
theorem dX7_areTargetsFit_14 : decode cX7_areTargetsFit 14 = .ok (.aload_n 0, 1) := by decide +kernel
theorem dX7_areTargetsFit_15 : decode cX7_areTargetsFit 15 = .ok (.getfield 58, 3) := by decide +kernel
theorem dX7_areTargetsFit_18 : decode cX7_areTargetsFit 18 = .ok (.getfield 282, 3) := by decide +kernel
theorem dX7_areTargetsFit_21 : decode cX7_areTargetsFit 21 = .ok (.invokevirtual 301, 3) := by decide +kernel
theorem dX7_areTargetsFit_24 : decode cX7_areTargetsFit 24 = .ok (.ireturn, 1) := by decide +kernel
theorem dX7_areTargetsFit_25 : decode cX7_areTargetsFit 25 = .ok (.aload_n 0, 1) := by decide +kernel
theorem dX7_areTargetsFit_26 : decode cX7_areTargetsFit 26 = .ok (.getfield 58, 3) := by decide +kernel
theorem dX7_areTargetsFit_29 : decode cX7_areTargetsFit 29 = .ok (.getfield 280, 3) := by decide +kernel
theorem dX7_areTargetsFit_32 : decode cX7_areTargetsFit 32 = .ok (.iconst 1, 1) := by decide +kernel
theorem dX7_areTargetsFit_33 : decode cX7_areTargetsFit 33 = .ok (.if_icmp .ne 60, 3) := by decide +kernel
theorem dX7_areTargetsFit_36 : decode cX7_areTargetsFit 36 = .ok (.aload_n 0, 1) := by decide +kernel
theorem dX7_areTargetsFit_37 : decode cX7_areTargetsFit 37 = .ok (.getfield 12, 3) := by decide +kernel
theorem dX7_areTargetsFit_40 : decode cX7_areTargetsFit 40 = .ok (.aload_n 0, 1) := by decide +kernel
theorem dX7_areTargetsFit_41 : decode cX7_areTargetsFit 41 = .ok (.getfield 58, 3) := by decide +kernel
theorem dX7_areTargetsFit_44 : decode cX7_areTargetsFit 44 = .ok (.getfield 282, 3) := by decide +kernel
theorem dX7_areTargetsFit_47 : decode cX7_areTargetsFit 47 = .ok (.invokevirtual 301, 3) := by decide +kernel
theorem dX7_areTargetsFit_50 : decode cX7_areTargetsFit 50 = .ok (.ifCond .eq 41, 3) := by decide +kernel
theorem dX7_areTargetsFit_53 : decode cX7_areTargetsFit 53 = .ok (.aload_n 0, 1) := by decide +kernel
theorem dX7_areTargetsFit_54 : decode cX7_areTargetsFit 54 = .ok (.getfield 12, 3) := by decide +kernel
theorem dX7_areTargetsFit_57 : decode cX7_areTargetsFit 57 = .ok (.aload_n 0, 1) := by decide +kernel
theorem dX7_areTargetsFit_58 : decode cX7_areTargetsFit 58 = .ok (.getfield 58, 3) := by decide +kernel
theorem dX7_areTargetsFit_61 : decode cX7_areTargetsFit 61 = .ok (.getfield 284, 3) := by decide +kernel
theorem dX7_areTargetsFit_64 : decode cX7_areTargetsFit 64 = .ok (.invokevirtual 301, 3) := by decide +kernel
theorem dX7_areTargetsFit_67 : decode cX7_areTargetsFit 67 = .ok (.ifCond .eq 24, 3) := by decide +kernel
theorem dX7_areTargetsFit_70 : decode cX7_areTargetsFit 70 = .ok (.aload_n 0, 1) := by decide +kernel
theorem dX7_areTargetsFit_71 : decode cX7_areTargetsFit 71 = .ok (.getfield 58, 3) := by decide +kernel
theorem dX7_areTargetsFit_74 : decode cX7_areTargetsFit 74 = .ok (.getfield 282, 3) := by decide +kernel
theorem dX7_areTargetsFit_77 : decode cX7_areTargetsFit 77 = .ok (.aload_n 0, 1) := by decide +kernel
theorem dX7_areTargetsFit_78 : decode cX7_areTargetsFit 78 = .ok (.getfield 58, 3) := by decide +kernel
theorem dX7_areTargetsFit_81 : decode cX7_areTargetsFit 81 = .ok (.getfield 284, 3) := by decide +kernel
theorem dX7_areTargetsFit_84 : decode cX7_areTargetsFit 84 = .ok (.if_icmp .eq 7, 3) := by decide +kernel
theorem dX7_areTargetsFit_87 : decode cX7_areTargetsFit 87 = .ok (.iconst 1, 1) := by decide +kernel
theorem dX7_areTargetsFit_88 : decode cX7_areTargetsFit 88 = .ok (.goto 4, 3) := by decide +kernel
theorem dX7_areTargetsFit_91 : decode cX7_areTargetsFit 91 = .ok (.iconst 0, 1) := by decide +kernel
theorem dX7_areTargetsFit_92 : decode cX7_areTargetsFit 92 = .ok (.ireturn, 1) := by decide +kernel
theorem dX7_areTargetsFit_93 : decode cX7_areTargetsFit 93 = .ok (.iconst 1, 1) := by decide +kernel
theorem dX7_areTargetsFit_94 : decode cX7_areTargetsFit 94 = .ok (.ireturn, 1) := by decide +kernel
theorem dJx00060_init_a7421_0 : decode cJx00060_init_a7421 0 = .ok (.aload_n 0, 1) := by decide +kernel
theorem dJx00060_init_a7421_1 : decode cJx00060_init_a7421 1 = .ok (.aload_n 1, 1) := by decide +kernel
theorem dJx00060_init_a7421_2 : decode cJx00060_init_a7421 2 = .ok (.invokespecial 7, 3) := by decide +kernel
theorem dJx00060_init_a7421_5 : decode cJx00060_init_a7421 5 = .ok (.return_, 1) := by decide +kernel
theorem dJ9_min_7cf53_0 : decode cJ9_min_7cf53 0 = .ok (.iload_n 0, 1) := by decide +kernel
theorem dJ9_min_7cf53_1 : decode cJ9_min_7cf53 1 = .ok (.iload_n 1, 1) := by decide +kernel
theorem dJ9_min_7cf53_2 : decode cJ9_min_7cf53 2 = .ok (.if_icmp .gt 7, 3) := by decide +kernel
theorem dJ9_min_7cf53_5 : decode cJ9_min_7cf53 5 = .ok (.iload_n 0, 1) := by decide +kernel
theorem dJ9_min_7cf53_6 : decode cJ9_min_7cf53 6 = .ok (.goto 4, 3) := by decide +kernel
theorem dJ9_min_7cf53_9 : decode cJ9_min_7cf53 9 = .ok (.iload_n 1, 1) := by decide +kernel
theorem dJ9_min_7cf53_10 : decode cJ9_min_7cf53 10 = .ok (.ireturn, 1) := by decide +kernel
theorem dJ0_length_8abf5_0 : decode cJ0_length_8abf5 0 = .ok (.aload_n 0, 1) := by decide +kernel
theorem dJ0_length_8abf5_1 : decode cJ0_length_8abf5 1 = .ok (.getfield 9, 3) := by decide +kernel
theorem dJ0_length_8abf5_4 : decode cJ0_length_8abf5 4 = .ok (.arraylength, 1) := by decide +kernel
theorem dJ0_length_8abf5_5 : decode cJ0_length_8abf5 5 = .ok (.aload_n 0, 1) := by decide +kernel
theorem dJ0_length_8abf5_6 : decode cJ0_length_8abf5 6 = .ok (.invokevirtual 335, 3) := by decide +kernel
theorem dJ0_length_8abf5_9 : decode cJ0_length_8abf5 9 = .ok (.ishr, 1) := by decide +kernel
theorem dJ0_length_8abf5_10 : decode cJ0_length_8abf5 10 = .ok (.ireturn, 1) := by decide +kernel
theorem dJ0_charAt_5068e_0 : decode cJ0_charAt_5068e 0 = .ok (.aload_n 0, 1) := by decide +kernel
theorem dJ0_charAt_5068e_1 : decode cJ0_charAt_5068e 1 = .ok (.invokevirtual 492, 3) := by decide +kernel
theorem dJ0_charAt_5068e_4 : decode cJ0_charAt_5068e 4 = .ok (.ifCond .eq 12, 3) := by decide +kernel
theorem dJ0_charAt_5068e_7 : decode cJ0_charAt_5068e 7 = .ok (.aload_n 0, 1) := by decide +kernel
theorem dJ0_charAt_5068e_8 : decode cJ0_charAt_5068e 8 = .ok (.getfield 9, 3) := by decide +kernel
theorem dJ0_charAt_5068e_11 : decode cJ0_charAt_5068e 11 = .ok (.iload_n 1, 1) := by decide +kernel
theorem dJ0_charAt_5068e_12 : decode cJ0_charAt_5068e 12 = .ok (.invokestatic 495, 3) := by decide +kernel
theorem dJ0_charAt_5068e_15 : decode cJ0_charAt_5068e 15 = .ok (.ireturn, 1) := by decide +kernel
theorem dJ0_charAt_5068e_16 : decode cJ0_charAt_5068e 16 = .ok (.aload_n 0, 1) := by decide +kernel
theorem dJ0_charAt_5068e_17 : decode cJ0_charAt_5068e 17 = .ok (.getfield 9, 3) := by decide +kernel
theorem dJ0_charAt_5068e_20 : decode cJ0_charAt_5068e 20 = .ok (.iload_n 1, 1) := by decide +kernel
theorem dJ0_charAt_5068e_21 : decode cJ0_charAt_5068e 21 = .ok (.invokestatic 498, 3) := by decide +kernel
theorem dJ0_charAt_5068e_24 : decode cJ0_charAt_5068e 24 = .ok (.ireturn, 1) := by decide +kernel
theorem dJ0_coder_7d493_0 : decode cJ0_coder_7d493 0 = .ok (.getstatic 38, 3) := by decide +kernel
theorem dJ0_coder_7d493_3 : decode cJ0_coder_7d493 3 = .ok (.ifCond .eq 10, 3) := by decide +kernel
theorem dJ0_coder_7d493_6 : decode cJ0_coder_7d493 6 = .ok (.aload_n 0, 1) := by decide +kernel
theorem dJ0_coder_7d493_7 : decode cJ0_coder_7d493 7 = .ok (.getfield 15, 3) := by decide +kernel
theorem dJ0_coder_7d493_10 : decode cJ0_coder_7d493 10 = .ok (.goto 4, 3) := by decide +kernel
theorem dJ0_coder_7d493_13 : decode cJ0_coder_7d493 13 = .ok (.iconst 1, 1) := by decide +kernel
theorem dJ0_coder_7d493_14 : decode cJ0_coder_7d493 14 = .ok (.ireturn, 1) := by decide +kernel
theorem dJ0_isLatin1_aae02_0 : decode cJ0_isLatin1_aae02 0 = .ok (.getstatic 38, 3) := by decide +kernel
theorem dJ0_isLatin1_aae02_3 : decode cJ0_isLatin1_aae02 3 = .ok (.ifCond .eq 14, 3) := by decide +kernel
theorem dJ0_isLatin1_aae02_6 : decode cJ0_isLatin1_aae02 6 = .ok (.aload_n 0, 1) := by decide +kernel
theorem dJ0_isLatin1_aae02_7 : decode cJ0_isLatin1_aae02 7 = .ok (.getfield 15, 3) := by decide +kernel
theorem dJ0_isLatin1_aae02_10 : decode cJ0_isLatin1_aae02 10 = .ok (.ifCond .ne 7, 3) := by decide +kernel
theorem dJ0_isLatin1_aae02_13 : decode cJ0_isLatin1_aae02 13 = .ok (.iconst 1, 1) := by decide +kernel
theorem dJ0_isLatin1_aae02_14 : decode cJ0_isLatin1_aae02 14 = .ok (.goto 4, 3) := by decide +kernel
theorem dJ0_isLatin1_aae02_17 : decode cJ0_isLatin1_aae02 17 = .ok (.iconst 0, 1) := by decide +kernel
theorem dJ0_isLatin1_aae02_18 : decode cJ0_isLatin1_aae02 18 = .ok (.ireturn, 1) := by decide +kernel
theorem dJ0_checkIndex_df160_0 : decode cJ0_checkIndex_df160 0 = .ok (.iload_n 0, 1) := by decide +kernel
theorem dJ0_checkIndex_df160_1 : decode cJ0_checkIndex_df160 1 = .ok (.iload_n 1, 1) := by decide +kernel
theorem dJ0_checkIndex_df160_2 : decode cJ0_checkIndex_df160 2 = .ok (.getstatic 1053, 3) := by decide +kernel
theorem dJ0_checkIndex_df160_5 : decode cJ0_checkIndex_df160 5 = .ok (.invokestatic 1059, 3) := by decide +kernel
theorem dJ0_checkIndex_df160_8 : decode cJ0_checkIndex_df160 8 = .ok (.pop, 1) := by decide +kernel
theorem dJ0_checkIndex_df160_9 : decode cJ0_checkIndex_df160 9 = .ok (.return_, 1) := by decide +kernel
theorem dJ1_charAt_3b067_0 : decode cJ1_charAt_3b067 0 = .ok (.iload_n 1, 1) := by decide +kernel
theorem dJ1_charAt_3b067_1 : decode cJ1_charAt_3b067 1 = .ok (.aload_n 0, 1) := by decide +kernel
theorem dJ1_charAt_3b067_2 : decode cJ1_charAt_3b067 2 = .ok (.arraylength, 1) := by decide +kernel
theorem dJ1_charAt_3b067_3 : decode cJ1_charAt_3b067 3 = .ok (.invokestatic 9, 3) := by decide +kernel
theorem dJ1_charAt_3b067_6 : decode cJ1_charAt_3b067 6 = .ok (.aload_n 0, 1) := by decide +kernel
theorem dJ1_charAt_3b067_7 : decode cJ1_charAt_3b067 7 = .ok (.iload_n 1, 1) := by decide +kernel
theorem dJ1_charAt_3b067_8 : decode cJ1_charAt_3b067 8 = .ok (.baload, 1) := by decide +kernel
theorem dJ1_charAt_3b067_9 : decode cJ1_charAt_3b067 9 = .ok (.sipush 255, 3) := by decide +kernel
theorem dJ1_charAt_3b067_12 : decode cJ1_charAt_3b067 12 = .ok (.iand, 1) := by decide +kernel
theorem dJ1_charAt_3b067_13 : decode cJ1_charAt_3b067 13 = .ok (.i2c, 1) := by decide +kernel
theorem dJ1_charAt_3b067_14 : decode cJ1_charAt_3b067 14 = .ok (.ireturn, 1) := by decide +kernel
theorem dJ2_getChar_3b067_0 : decode cJ2_getChar_3b067 0 = .ok (.getstatic 44, 3) := by decide +kernel
theorem dJ2_getChar_3b067_3 : decode cJ2_getChar_3b067 3 = .ok (.ifCond .ne 25, 3) := by decide +kernel
theorem dJ2_getChar_3b067_6 : decode cJ2_getChar_3b067 6 = .ok (.iload_n 1, 1) := by decide +kernel
theorem dJ2_getChar_3b067_7 : decode cJ2_getChar_3b067 7 = .ok (.ifCond .lt 11, 3) := by decide +kernel
theorem dJ2_getChar_3b067_10 : decode cJ2_getChar_3b067 10 = .ok (.iload_n 1, 1) := by decide +kernel
theorem dJ2_getChar_3b067_11 : decode cJ2_getChar_3b067 11 = .ok (.aload_n 0, 1) := by decide +kernel
theorem dJ2_getChar_3b067_12 : decode cJ2_getChar_3b067 12 = .ok (.invokestatic 48, 3) := by decide +kernel
theorem dJ2_getChar_3b067_15 : decode cJ2_getChar_3b067 15 = .ok (.if_icmp .lt 13, 3) := by decide +kernel
theorem dJ2_getChar_3b067_18 : decode cJ2_getChar_3b067 18 = .ok (.new 52, 3) := by decide +kernel
theorem dJ2_getChar_3b067_21 : decode cJ2_getChar_3b067 21 = .ok (.dup, 1) := by decide +kernel
theorem dJ2_getChar_3b067_22 : decode cJ2_getChar_3b067 22 = .ok (.ldc 54, 2) := by decide +kernel
theorem dJ2_getChar_3b067_24 : decode cJ2_getChar_3b067 24 = .ok (.invokespecial 56, 3) := by decide +kernel
theorem dJ2_getChar_3b067_27 : decode cJ2_getChar_3b067 27 = .ok (.athrow, 1) := by decide +kernel
theorem dJ2_getChar_3b067_28 : decode cJ2_getChar_3b067 28 = .ok (.iload_n 1, 1) := by decide +kernel
theorem dJ2_getChar_3b067_29 : decode cJ2_getChar_3b067 29 = .ok (.iconst 1, 1) := by decide +kernel
theorem dJ2_getChar_3b067_30 : decode cJ2_getChar_3b067 30 = .ok (.ishl, 1) := by decide +kernel
theorem dJ2_getChar_3b067_31 : decode cJ2_getChar_3b067 31 = .ok (.istore_n 1, 1) := by decide +kernel
theorem dJ2_getChar_3b067_32 : decode cJ2_getChar_3b067 32 = .ok (.aload_n 0, 1) := by decide +kernel
theorem dJ2_getChar_3b067_33 : decode cJ2_getChar_3b067 33 = .ok (.iload_n 1, 1) := by decide +kernel
theorem dJ2_getChar_3b067_34 : decode cJ2_getChar_3b067 34 = .ok (.iinc 1 1, 3) := by decide +kernel
theorem dJ2_getChar_3b067_37 : decode cJ2_getChar_3b067 37 = .ok (.baload, 1) := by decide +kernel
theorem dJ2_getChar_3b067_38 : decode cJ2_getChar_3b067 38 = .ok (.sipush 255, 3) := by decide +kernel
theorem dJ2_getChar_3b067_41 : decode cJ2_getChar_3b067 41 = .ok (.iand, 1) := by decide +kernel
theorem dJ2_getChar_3b067_42 : decode cJ2_getChar_3b067 42 = .ok (.getstatic 59, 3) := by decide +kernel
theorem dJ2_getChar_3b067_45 : decode cJ2_getChar_3b067 45 = .ok (.ishl, 1) := by decide +kernel
theorem dJ2_getChar_3b067_46 : decode cJ2_getChar_3b067 46 = .ok (.aload_n 0, 1) := by decide +kernel
theorem dJ2_getChar_3b067_47 : decode cJ2_getChar_3b067 47 = .ok (.iload_n 1, 1) := by decide +kernel
theorem dJ2_getChar_3b067_48 : decode cJ2_getChar_3b067 48 = .ok (.baload, 1) := by decide +kernel
theorem dJ2_getChar_3b067_49 : decode cJ2_getChar_3b067 49 = .ok (.sipush 255, 3) := by decide +kernel
theorem dJ2_getChar_3b067_52 : decode cJ2_getChar_3b067 52 = .ok (.iand, 1) := by decide +kernel
theorem dJ2_getChar_3b067_53 : decode cJ2_getChar_3b067 53 = .ok (.getstatic 63, 3) := by decide +kernel
theorem dJ2_getChar_3b067_56 : decode cJ2_getChar_3b067 56 = .ok (.ishl, 1) := by decide +kernel
theorem dJ2_getChar_3b067_57 : decode cJ2_getChar_3b067 57 = .ok (.ior, 1) := by decide +kernel
theorem dJ2_getChar_3b067_58 : decode cJ2_getChar_3b067 58 = .ok (.i2c, 1) := by decide +kernel
theorem dJ2_getChar_3b067_59 : decode cJ2_getChar_3b067 59 = .ok (.ireturn, 1) := by decide +kernel
theorem dJ2_length_9d52b_0 : decode cJ2_length_9d52b 0 = .ok (.aload_n 0, 1) := by decide +kernel
theorem dJ2_length_9d52b_1 : decode cJ2_length_9d52b 1 = .ok (.arraylength, 1) := by decide +kernel
theorem dJ2_length_9d52b_2 : decode cJ2_length_9d52b 2 = .ok (.iconst 1, 1) := by decide +kernel
theorem dJ2_length_9d52b_3 : decode cJ2_length_9d52b 3 = .ok (.ishr, 1) := by decide +kernel
theorem dJ2_length_9d52b_4 : decode cJ2_length_9d52b 4 = .ok (.ireturn, 1) := by decide +kernel
theorem dJ2_charAt_3b067_0 : decode cJ2_charAt_3b067 0 = .ok (.iload_n 1, 1) := by decide +kernel
theorem dJ2_charAt_3b067_1 : decode cJ2_charAt_3b067 1 = .ok (.aload_n 0, 1) := by decide +kernel
theorem dJ2_charAt_3b067_2 : decode cJ2_charAt_3b067 2 = .ok (.invokestatic 67, 3) := by decide +kernel
theorem dJ2_charAt_3b067_5 : decode cJ2_charAt_3b067 5 = .ok (.aload_n 0, 1) := by decide +kernel
theorem dJ2_charAt_3b067_6 : decode cJ2_charAt_3b067 6 = .ok (.iload_n 1, 1) := by decide +kernel
theorem dJ2_charAt_3b067_7 : decode cJ2_charAt_3b067 7 = .ok (.invokestatic 71, 3) := by decide +kernel
theorem dJ2_charAt_3b067_10 : decode cJ2_charAt_3b067 10 = .ok (.ireturn, 1) := by decide +kernel
theorem dJ2_checkIndex_2214a_0 : decode cJ2_checkIndex_2214a 0 = .ok (.iload_n 0, 1) := by decide +kernel
theorem dJ2_checkIndex_2214a_1 : decode cJ2_checkIndex_2214a 1 = .ok (.aload_n 1, 1) := by decide +kernel
theorem dJ2_checkIndex_2214a_2 : decode cJ2_checkIndex_2214a 2 = .ok (.invokestatic 48, 3) := by decide +kernel
theorem dJ2_checkIndex_2214a_5 : decode cJ2_checkIndex_2214a 5 = .ok (.invokestatic 414, 3) := by decide +kernel
theorem dJ2_checkIndex_2214a_8 : decode cJ2_checkIndex_2214a 8 = .ok (.return_, 1) := by decide +kernel
theorem dJ3_checkIndex_8e157_0 : decode cJ3_checkIndex_8e157 0 = .ok (.iload_n 0, 1) := by decide +kernel
theorem dJ3_checkIndex_8e157_1 : decode cJ3_checkIndex_8e157 1 = .ok (.ifCond .lt 8, 3) := by decide +kernel
theorem dJ3_checkIndex_8e157_4 : decode cJ3_checkIndex_8e157 4 = .ok (.iload_n 0, 1) := by decide +kernel
theorem dJ3_checkIndex_8e157_5 : decode cJ3_checkIndex_8e157 5 = .ok (.iload_n 1, 1) := by decide +kernel
theorem dJ3_checkIndex_8e157_6 : decode cJ3_checkIndex_8e157 6 = .ok (.if_icmp .lt 10, 3) := by decide +kernel
theorem dJ3_checkIndex_8e157_9 : decode cJ3_checkIndex_8e157 9 = .ok (.aload_n 2, 1) := by decide +kernel
theorem dJ3_checkIndex_8e157_10 : decode cJ3_checkIndex_8e157 10 = .ok (.iload_n 0, 1) := by decide +kernel
theorem dJ3_checkIndex_8e157_11 : decode cJ3_checkIndex_8e157 11 = .ok (.iload_n 1, 1) := by decide +kernel
theorem dJ3_checkIndex_8e157_12 : decode cJ3_checkIndex_8e157 12 = .ok (.invokestatic 95, 3) := by decide +kernel
theorem dJ3_checkIndex_8e157_15 : decode cJ3_checkIndex_8e157 15 = .ok (.athrow, 1) := by decide +kernel
theorem dJ3_checkIndex_8e157_16 : decode cJ3_checkIndex_8e157 16 = .ok (.iload_n 0, 1) := by decide +kernel
theorem dJ3_checkIndex_8e157_17 : decode cJ3_checkIndex_8e157 17 = .ok (.ireturn, 1) := by decide +kernel
