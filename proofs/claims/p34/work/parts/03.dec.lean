theorem dX5_costTo_0 : decode cX5_costTo 0 = .ok (.aload_n 0, 1) := by decide +kernel
theorem dX5_costTo_1 : decode cX5_costTo 1 = .ok (.getfield 9, 3) := by decide +kernel
theorem dX5_costTo_4 : decode cX5_costTo 4 = .ok (.iload_n 1, 1) := by decide +kernel
theorem dX5_costTo_5 : decode cX5_costTo 5 = .ok (.iaload, 1) := by decide +kernel
theorem dX5_costTo_6 : decode cX5_costTo 6 = .ok (.iconst 3, 1) := by decide +kernel
theorem dX5_costTo_7 : decode cX5_costTo 7 = .ok (.if_icmp .ne 23, 3) := by decide +kernel
theorem dX5_costTo_10 : decode cX5_costTo 10 = .ok (.iconst 0, 1) := by decide +kernel
theorem dX5_costTo_11 : decode cX5_costTo 11 = .ok (.aload_n 0, 1) := by decide +kernel
theorem dX5_costTo_12 : decode cX5_costTo 12 = .ok (.getfield 21, 3) := by decide +kernel
theorem dX5_costTo_15 : decode cX5_costTo 15 = .ok (.iload_n 2, 1) := by decide +kernel
theorem dX5_costTo_16 : decode cX5_costTo 16 = .ok (.iaload, 1) := by decide +kernel
theorem dX5_costTo_17 : decode cX5_costTo 17 = .ok (.aload_n 0, 1) := by decide +kernel
theorem dX5_costTo_18 : decode cX5_costTo 18 = .ok (.getfield 15, 3) := by decide +kernel
theorem dX5_costTo_21 : decode cX5_costTo 21 = .ok (.iload_n 1, 1) := by decide +kernel
theorem dX5_costTo_22 : decode cX5_costTo 22 = .ok (.iaload, 1) := by decide +kernel
theorem dX5_costTo_23 : decode cX5_costTo 23 = .ok (.isub, 1) := by decide +kernel
theorem dX5_costTo_24 : decode cX5_costTo 24 = .ok (.invokestatic 67, 3) := by decide +kernel
theorem dX5_costTo_27 : decode cX5_costTo 27 = .ok (.goto 9, 3) := by decide +kernel
theorem dX5_costTo_30 : decode cX5_costTo 30 = .ok (.aload_n 0, 1) := by decide +kernel
theorem dX5_costTo_31 : decode cX5_costTo 31 = .ok (.getfield 21, 3) := by decide +kernel
theorem dX5_costTo_34 : decode cX5_costTo 34 = .ok (.iload_n 2, 1) := by decide +kernel
theorem dX5_costTo_35 : decode cX5_costTo 35 = .ok (.iaload, 1) := by decide +kernel
theorem dX5_costTo_36 : decode cX5_costTo 36 = .ok (.ireturn, 1) := by decide +kernel
theorem dX0_listShops_0 : decode cX0_listShops 0 = .ok (.aload_n 0, 1) := by decide +kernel
theorem dX0_listShops_1 : decode cX0_listShops 1 = .ok (.iconst 0, 1) := by decide +kernel
theorem dX0_listShops_2 : decode cX0_listShops 2 = .ok (.putfield 59, 3) := by decide +kernel
theorem dX0_listShops_5 : decode cX0_listShops 5 = .ok (.iconst 0, 1) := by decide +kernel
theorem dX0_listShops_6 : decode cX0_listShops 6 = .ok (.istore_n 3, 1) := by decide +kernel
theorem dX0_listShops_7 : decode cX0_listShops 7 = .ok (.iload_n 3, 1) := by decide +kernel
theorem dX0_listShops_8 : decode cX0_listShops 8 = .ok (.aload_n 0, 1) := by decide +kernel
theorem dX0_listShops_9 : decode cX0_listShops 9 = .ok (.getfield 41, 3) := by decide +kernel
theorem dX0_listShops_12 : decode cX0_listShops 12 = .ok (.getfield 102, 3) := by decide +kernel
theorem dX0_listShops_15 : decode cX0_listShops 15 = .ok (.if_icmp .ge 80, 3) := by decide +kernel
theorem dX0_listShops_18 : decode cX0_listShops 18 = .ok (.aload_n 0, 1) := by decide +kernel
theorem dX0_listShops_19 : decode cX0_listShops 19 = .ok (.getfield 59, 3) := by decide +kernel
theorem dX0_listShops_22 : decode cX0_listShops 22 = .ok (.iconst 3, 1) := by decide +kernel
theorem dX0_listShops_23 : decode cX0_listShops 23 = .ok (.if_icmp .ge 72, 3) := by decide +kernel
theorem dX0_listShops_26 : decode cX0_listShops 26 = .ok (.aload_n 1, 1) := by decide +kernel
theorem dX0_listShops_27 : decode cX0_listShops 27 = .ok (.getfield 105, 3) := by decide +kernel
theorem dX0_listShops_30 : decode cX0_listShops 30 = .ok (.iload_n 3, 1) := by decide +kernel
theorem dX0_listShops_31 : decode cX0_listShops 31 = .ok (.iaload, 1) := by decide +kernel
theorem dX0_listShops_32 : decode cX0_listShops 32 = .ok (.iload_n 2, 1) := by decide +kernel
theorem dX0_listShops_33 : decode cX0_listShops 33 = .ok (.if_icmp .ne 56, 3) := by decide +kernel
theorem dX0_listShops_36 : decode cX0_listShops 36 = .ok (.aload_n 0, 1) := by decide +kernel
theorem dX0_listShops_37 : decode cX0_listShops 37 = .ok (.getfield 9, 3) := by decide +kernel
theorem dX0_listShops_40 : decode cX0_listShops 40 = .ok (.aload_n 0, 1) := by decide +kernel
theorem dX0_listShops_41 : decode cX0_listShops 41 = .ok (.getfield 59, 3) := by decide +kernel
theorem dX0_listShops_44 : decode cX0_listShops 44 = .ok (.iload_n 3, 1) := by decide +kernel
theorem dX0_listShops_45 : decode cX0_listShops 45 = .ok (.iastore, 1) := by decide +kernel
theorem dX0_listShops_46 : decode cX0_listShops 46 = .ok (.aload_n 0, 1) := by decide +kernel
theorem dX0_listShops_47 : decode cX0_listShops 47 = .ok (.getfield 15, 3) := by decide +kernel
theorem dX0_listShops_50 : decode cX0_listShops 50 = .ok (.aload_n 0, 1) := by decide +kernel
theorem dX0_listShops_51 : decode cX0_listShops 51 = .ok (.getfield 59, 3) := by decide +kernel
theorem dX0_listShops_54 : decode cX0_listShops 54 = .ok (.aload_n 0, 1) := by decide +kernel
theorem dX0_listShops_55 : decode cX0_listShops 55 = .ok (.getfield 41, 3) := by decide +kernel
theorem dX0_listShops_58 : decode cX0_listShops 58 = .ok (.iload_n 2, 1) := by decide +kernel
theorem dX0_listShops_59 : decode cX0_listShops 59 = .ok (.iload_n 3, 1) := by decide +kernel
theorem dX0_listShops_60 : decode cX0_listShops 60 = .ok (.invokevirtual 108, 3) := by decide +kernel
theorem dX0_listShops_63 : decode cX0_listShops 63 = .ok (.iastore, 1) := by decide +kernel
theorem dX0_listShops_64 : decode cX0_listShops 64 = .ok (.aload_n 0, 1) := by decide +kernel
theorem dX0_listShops_65 : decode cX0_listShops 65 = .ok (.getfield 21, 3) := by decide +kernel
theorem dX0_listShops_68 : decode cX0_listShops 68 = .ok (.aload_n 0, 1) := by decide +kernel
theorem dX0_listShops_69 : decode cX0_listShops 69 = .ok (.getfield 59, 3) := by decide +kernel
theorem dX0_listShops_72 : decode cX0_listShops 72 = .ok (.aload_n 1, 1) := by decide +kernel
theorem dX0_listShops_73 : decode cX0_listShops 73 = .ok (.getfield 62, 3) := by decide +kernel
theorem dX0_listShops_76 : decode cX0_listShops 76 = .ok (.iload_n 3, 1) := by decide +kernel
theorem dX0_listShops_77 : decode cX0_listShops 77 = .ok (.iaload, 1) := by decide +kernel
theorem dX0_listShops_78 : decode cX0_listShops 78 = .ok (.iastore, 1) := by decide +kernel
theorem dX0_listShops_79 : decode cX0_listShops 79 = .ok (.aload_n 0, 1) := by decide +kernel
theorem dX0_listShops_80 : decode cX0_listShops 80 = .ok (.dup, 1) := by decide +kernel
theorem dX0_listShops_81 : decode cX0_listShops 81 = .ok (.getfield 59, 3) := by decide +kernel
theorem dX0_listShops_84 : decode cX0_listShops 84 = .ok (.iconst 1, 1) := by decide +kernel
theorem dX0_listShops_85 : decode cX0_listShops 85 = .ok (.iadd, 1) := by decide +kernel
theorem dX0_listShops_86 : decode cX0_listShops 86 = .ok (.putfield 59, 3) := by decide +kernel
theorem dX0_listShops_89 : decode cX0_listShops 89 = .ok (.iinc 3 1, 3) := by decide +kernel
theorem dX0_listShops_92 : decode cX0_listShops 92 = .ok (.goto (-85), 3) := by decide +kernel
theorem dX0_listShops_95 : decode cX0_listShops 95 = .ok (.return_, 1) := by decide +kernel
theorem dX4_whatIs_0 : decode cX4_whatIs 0 = .ok (.aload_n 0, 1) := by decide +kernel
theorem dX4_whatIs_1 : decode cX4_whatIs 1 = .ok (.getfield 9, 3) := by decide +kernel
theorem dX4_whatIs_4 : decode cX4_whatIs 4 = .ok (.iload_n 2, 1) := by decide +kernel
theorem dX4_whatIs_5 : decode cX4_whatIs 5 = .ok (.iaload, 1) := by decide +kernel
theorem dX4_whatIs_6 : decode cX4_whatIs 6 = .ok (.aload_n 0, 1) := by decide +kernel
theorem dX4_whatIs_7 : decode cX4_whatIs 7 = .ok (.getfield 22, 3) := by decide +kernel
theorem dX4_whatIs_10 : decode cX4_whatIs 10 = .ok (.getfield 56, 3) := by decide +kernel
theorem dX4_whatIs_13 : decode cX4_whatIs 13 = .ok (.iload_n 1, 1) := by decide +kernel
theorem dX4_whatIs_14 : decode cX4_whatIs 14 = .ok (.aaload, 1) := by decide +kernel
theorem dX4_whatIs_15 : decode cX4_whatIs 15 = .ok (.iload_n 2, 1) := by decide +kernel
theorem dX4_whatIs_16 : decode cX4_whatIs 16 = .ok (.iaload, 1) := by decide +kernel
theorem dX4_whatIs_17 : decode cX4_whatIs 17 = .ok (.iadd, 1) := by decide +kernel
theorem dX4_whatIs_18 : decode cX4_whatIs 18 = .ok (.ireturn, 1) := by decide +kernel
theorem dX4_isOpen_0 : decode cX4_isOpen 0 = .ok (.aload_n 0, 1) := by decide +kernel
theorem dX4_isOpen_1 : decode cX4_isOpen 1 = .ok (.getfield 15, 3) := by decide +kernel
theorem dX4_isOpen_4 : decode cX4_isOpen 4 = .ok (.iload_n 1, 1) := by decide +kernel
theorem dX4_isOpen_5 : decode cX4_isOpen 5 = .ok (.iaload, 1) := by decide +kernel
theorem dX4_isOpen_6 : decode cX4_isOpen 6 = .ok (.istore_n 2, 1) := by decide +kernel
theorem dX4_isOpen_7 : decode cX4_isOpen 7 = .ok (.aload_n 0, 1) := by decide +kernel
theorem dX4_isOpen_8 : decode cX4_isOpen 8 = .ok (.getfield 22, 3) := by decide +kernel
theorem dX4_isOpen_11 : decode cX4_isOpen 11 = .ok (.getfield 41, 3) := by decide +kernel
theorem dX4_isOpen_14 : decode cX4_isOpen 14 = .ok (.iload_n 2, 1) := by decide +kernel
theorem dX4_isOpen_15 : decode cX4_isOpen 15 = .ok (.iaload, 1) := by decide +kernel
theorem dX4_isOpen_16 : decode cX4_isOpen 16 = .ok (.iconst 4, 1) := by decide +kernel
theorem dX4_isOpen_17 : decode cX4_isOpen 17 = .ok (.if_icmp .ne 12, 3) := by decide +kernel
theorem dX4_isOpen_20 : decode cX4_isOpen 20 = .ok (.aload_n 0, 1) := by decide +kernel
theorem dX4_isOpen_21 : decode cX4_isOpen 21 = .ok (.getfield 18, 3) := by decide +kernel
theorem dX4_isOpen_24 : decode cX4_isOpen 24 = .ok (.iload_n 2, 1) := by decide +kernel
theorem dX4_isOpen_25 : decode cX4_isOpen 25 = .ok (.baload, 1) := by decide +kernel
theorem dX4_isOpen_26 : decode cX4_isOpen 26 = .ok (.ifCond .eq 7, 3) := by decide +kernel
theorem dX4_isOpen_29 : decode cX4_isOpen 29 = .ok (.iconst 1, 1) := by decide +kernel
theorem dX4_isOpen_30 : decode cX4_isOpen 30 = .ok (.goto 4, 3) := by decide +kernel
theorem dX4_isOpen_33 : decode cX4_isOpen 33 = .ok (.iconst 0, 1) := by decide +kernel
theorem dX4_isOpen_34 : decode cX4_isOpen 34 = .ok (.ireturn, 1) := by decide +kernel
theorem dX4_choice_0 : decode cX4_choice 0 = .ok (.iconst (-1), 1) := by decide +kernel
theorem dX4_choice_1 : decode cX4_choice 1 = .ok (.istore_n 3, 1) := by decide +kernel
theorem dX4_choice_2 : decode cX4_choice 2 = .ok (.aload_n 0, 1) := by decide +kernel
theorem dX4_choice_3 : decode cX4_choice 3 = .ok (.getfield 22, 3) := by decide +kernel
theorem dX4_choice_6 : decode cX4_choice 6 = .ok (.getfield 60, 3) := by decide +kernel
theorem dX4_choice_9 : decode cX4_choice 9 = .ok (.iload_n 1, 1) := by decide +kernel
theorem dX4_choice_10 : decode cX4_choice 10 = .ok (.iaload, 1) := by decide +kernel
theorem dX4_choice_11 : decode cX4_choice 11 = .ok (.iconst 1, 1) := by decide +kernel
theorem dX4_choice_12 : decode cX4_choice 12 = .ok (.iadd, 1) := by decide +kernel
theorem dX4_choice_13 : decode cX4_choice 13 = .ok (.istore 4, 2) := by decide +kernel
theorem dX4_choice_15 : decode cX4_choice 15 = .ok (.iconst 0, 1) := by decide +kernel
theorem dX4_choice_16 : decode cX4_choice 16 = .ok (.istore 5, 2) := by decide +kernel
theorem dX4_choice_18 : decode cX4_choice 18 = .ok (.iload 5, 2) := by decide +kernel
theorem dX4_choice_20 : decode cX4_choice 20 = .ok (.aload_n 0, 1) := by decide +kernel
theorem dX4_choice_21 : decode cX4_choice 21 = .ok (.getfield 22, 3) := by decide +kernel
theorem dX4_choice_24 : decode cX4_choice 24 = .ok (.getfield 26, 3) := by decide +kernel
theorem dX4_choice_27 : decode cX4_choice 27 = .ok (.if_icmp .ge 47, 3) := by decide +kernel
theorem dX4_choice_30 : decode cX4_choice 30 = .ok (.aload_n 0, 1) := by decide +kernel
theorem dX4_choice_31 : decode cX4_choice 31 = .ok (.iload_n 1, 1) := by decide +kernel
theorem dX4_choice_32 : decode cX4_choice 32 = .ok (.iload 5, 2) := by decide +kernel
theorem dX4_choice_34 : decode cX4_choice 34 = .ok (.invokevirtual 63, 3) := by decide +kernel
theorem dX4_choice_37 : decode cX4_choice 37 = .ok (.istore 6, 2) := by decide +kernel
theorem dX4_choice_39 : decode cX4_choice 39 = .ok (.iload 6, 2) := by decide +kernel
theorem dX4_choice_41 : decode cX4_choice 41 = .ok (.iload 4, 2) := by decide +kernel
theorem dX4_choice_43 : decode cX4_choice 43 = .ok (.if_icmp .ge 25, 3) := by decide +kernel
theorem dX4_choice_46 : decode cX4_choice 46 = .ok (.iload 5, 2) := by decide +kernel
theorem dX4_choice_48 : decode cX4_choice 48 = .ok (.iload_n 2, 1) := by decide +kernel
theorem dX4_choice_49 : decode cX4_choice 49 = .ok (.if_icmp .eq 19, 3) := by decide +kernel
theorem dX4_choice_52 : decode cX4_choice 52 = .ok (.aload_n 0, 1) := by decide +kernel
theorem dX4_choice_53 : decode cX4_choice 53 = .ok (.iload 5, 2) := by decide +kernel
theorem dX4_choice_55 : decode cX4_choice 55 = .ok (.invokevirtual 44, 3) := by decide +kernel
theorem dX4_choice_58 : decode cX4_choice 58 = .ok (.ifCond .eq 10, 3) := by decide +kernel
theorem dX4_choice_61 : decode cX4_choice 61 = .ok (.iload 5, 2) := by decide +kernel
theorem dX4_choice_63 : decode cX4_choice 63 = .ok (.istore_n 3, 1) := by decide +kernel
theorem dX4_choice_64 : decode cX4_choice 64 = .ok (.iload 6, 2) := by decide +kernel
theorem dX4_choice_66 : decode cX4_choice 66 = .ok (.istore 4, 2) := by decide +kernel
theorem dX4_choice_68 : decode cX4_choice 68 = .ok (.iinc 5 1, 3) := by decide +kernel
theorem dX4_choice_71 : decode cX4_choice 71 = .ok (.goto (-53), 3) := by decide +kernel
theorem dX4_choice_74 : decode cX4_choice 74 = .ok (.iload_n 3, 1) := by decide +kernel
theorem dX4_choice_75 : decode cX4_choice 75 = .ok (.ireturn, 1) := by decide +kernel
theorem dX4_profitOf_0 : decode cX4_profitOf 0 = .ok (.iconst 0, 1) := by decide +kernel
theorem dX4_profitOf_1 : decode cX4_profitOf 1 = .ok (.istore_n 2, 1) := by decide +kernel
theorem dX4_profitOf_2 : decode cX4_profitOf 2 = .ok (.iconst 0, 1) := by decide +kernel
theorem dX4_profitOf_3 : decode cX4_profitOf 3 = .ok (.istore_n 3, 1) := by decide +kernel
theorem dX4_profitOf_4 : decode cX4_profitOf 4 = .ok (.iload_n 3, 1) := by decide +kernel
theorem dX4_profitOf_5 : decode cX4_profitOf 5 = .ok (.aload_n 0, 1) := by decide +kernel
theorem dX4_profitOf_6 : decode cX4_profitOf 6 = .ok (.getfield 22, 3) := by decide +kernel
theorem dX4_profitOf_9 : decode cX4_profitOf 9 = .ok (.getfield 70, 3) := by decide +kernel
theorem dX4_profitOf_12 : decode cX4_profitOf 12 = .ok (.if_icmp .ge 65, 3) := by decide +kernel
theorem dX4_profitOf_15 : decode cX4_profitOf 15 = .ok (.aload_n 0, 1) := by decide +kernel
theorem dX4_profitOf_16 : decode cX4_profitOf 16 = .ok (.iload_n 3, 1) := by decide +kernel
theorem dX4_profitOf_17 : decode cX4_profitOf 17 = .ok (.iconst (-1), 1) := by decide +kernel
theorem dX4_profitOf_18 : decode cX4_profitOf 18 = .ok (.invokevirtual 67, 3) := by decide +kernel
theorem dX4_profitOf_21 : decode cX4_profitOf 21 = .ok (.istore 4, 2) := by decide +kernel
theorem dX4_profitOf_23 : decode cX4_profitOf 23 = .ok (.iload 4, 2) := by decide +kernel
theorem dX4_profitOf_25 : decode cX4_profitOf 25 = .ok (.iconst (-1), 1) := by decide +kernel
theorem dX4_profitOf_26 : decode cX4_profitOf 26 = .ok (.if_icmp .eq 45, 3) := by decide +kernel
theorem dX4_profitOf_29 : decode cX4_profitOf 29 = .ok (.aload_n 0, 1) := by decide +kernel
theorem dX4_profitOf_30 : decode cX4_profitOf 30 = .ok (.getfield 15, 3) := by decide +kernel
theorem dX4_profitOf_33 : decode cX4_profitOf 33 = .ok (.iload 4, 2) := by decide +kernel
theorem dX4_profitOf_35 : decode cX4_profitOf 35 = .ok (.iaload, 1) := by decide +kernel
theorem dX4_profitOf_36 : decode cX4_profitOf 36 = .ok (.iload_n 1, 1) := by decide +kernel
theorem dX4_profitOf_37 : decode cX4_profitOf 37 = .ok (.if_icmp .ne 34, 3) := by decide +kernel
theorem dX4_profitOf_40 : decode cX4_profitOf 40 = .ok (.iload_n 2, 1) := by decide +kernel
theorem dX4_profitOf_41 : decode cX4_profitOf 41 = .ok (.aload_n 0, 1) := by decide +kernel
theorem dX4_profitOf_42 : decode cX4_profitOf 42 = .ok (.getfield 22, 3) := by decide +kernel
theorem dX4_profitOf_45 : decode cX4_profitOf 45 = .ok (.getfield 73, 3) := by decide +kernel
theorem dX4_profitOf_48 : decode cX4_profitOf 48 = .ok (.iload_n 3, 1) := by decide +kernel
theorem dX4_profitOf_49 : decode cX4_profitOf 49 = .ok (.iaload, 1) := by decide +kernel
theorem dX4_profitOf_50 : decode cX4_profitOf 50 = .ok (.aload_n 0, 1) := by decide +kernel
theorem dX4_profitOf_51 : decode cX4_profitOf 51 = .ok (.getfield 9, 3) := by decide +kernel
theorem dX4_profitOf_54 : decode cX4_profitOf 54 = .ok (.iload 4, 2) := by decide +kernel
theorem dX4_profitOf_56 : decode cX4_profitOf 56 = .ok (.iaload, 1) := by decide +kernel
theorem dX4_profitOf_57 : decode cX4_profitOf 57 = .ok (.aload_n 0, 1) := by decide +kernel
theorem dX4_profitOf_58 : decode cX4_profitOf 58 = .ok (.getfield 22, 3) := by decide +kernel
theorem dX4_profitOf_61 : decode cX4_profitOf 61 = .ok (.iload_n 1, 1) := by decide +kernel
theorem dX4_profitOf_62 : decode cX4_profitOf 62 = .ok (.iload 4, 2) := by decide +kernel
theorem dX4_profitOf_64 : decode cX4_profitOf 64 = .ok (.invokevirtual 76, 3) := by decide +kernel
theorem dX4_profitOf_67 : decode cX4_profitOf 67 = .ok (.isub, 1) := by decide +kernel
theorem dX4_profitOf_68 : decode cX4_profitOf 68 = .ok (.imul, 1) := by decide +kernel
theorem dX4_profitOf_69 : decode cX4_profitOf 69 = .ok (.iadd, 1) := by decide +kernel
theorem dX4_profitOf_70 : decode cX4_profitOf 70 = .ok (.istore_n 2, 1) := by decide +kernel
theorem dX4_profitOf_71 : decode cX4_profitOf 71 = .ok (.iinc 3 1, 3) := by decide +kernel
theorem dX4_profitOf_74 : decode cX4_profitOf 74 = .ok (.goto (-70), 3) := by decide +kernel
theorem dX4_profitOf_77 : decode cX4_profitOf 77 = .ok (.iload_n 2, 1) := by decide +kernel
theorem dX4_profitOf_78 : decode cX4_profitOf 78 = .ok (.ireturn, 1) := by decide +kernel
theorem dX0_layOthers_0 : decode cX0_layOthers 0 = .ok (.iconst 0, 1) := by decide +kernel
theorem dX0_layOthers_1 : decode cX0_layOthers 1 = .ok (.istore_n 3, 1) := by decide +kernel
theorem dX0_layOthers_2 : decode cX0_layOthers 2 = .ok (.iload_n 3, 1) := by decide +kernel
theorem dX0_layOthers_3 : decode cX0_layOthers 3 = .ok (.aload_n 0, 1) := by decide +kernel
theorem dX0_layOthers_4 : decode cX0_layOthers 4 = .ok (.getfield 41, 3) := by decide +kernel
theorem dX0_layOthers_7 : decode cX0_layOthers 7 = .ok (.getfield 112, 3) := by decide +kernel
theorem dX0_layOthers_10 : decode cX0_layOthers 10 = .ok (.if_icmp .ge 129, 3) := by decide +kernel
theorem dX0_layOthers_13 : decode cX0_layOthers 13 = .ok (.aload_n 0, 1) := by decide +kernel
theorem dX0_layOthers_14 : decode cX0_layOthers 14 = .ok (.getfield 26, 3) := by decide +kernel
theorem dX0_layOthers_17 : decode cX0_layOthers 17 = .ok (.iconst 0, 1) := by decide +kernel
theorem dX0_layOthers_18 : decode cX0_layOthers 18 = .ok (.aaload, 1) := by decide +kernel
theorem dX0_layOthers_19 : decode cX0_layOthers 19 = .ok (.iload_n 3, 1) := by decide +kernel
theorem dX0_layOthers_20 : decode cX0_layOthers 20 = .ok (.aload_n 0, 1) := by decide +kernel
theorem dX0_layOthers_21 : decode cX0_layOthers 21 = .ok (.getfield 41, 3) := by decide +kernel
theorem dX0_layOthers_24 : decode cX0_layOthers 24 = .ok (.getfield 115, 3) := by decide +kernel
theorem dX0_layOthers_27 : decode cX0_layOthers 27 = .ok (.iload_n 3, 1) := by decide +kernel
theorem dX0_layOthers_28 : decode cX0_layOthers 28 = .ok (.iaload, 1) := by decide +kernel
theorem dX0_layOthers_29 : decode cX0_layOthers 29 = .ok (.iconst 1, 1) := by decide +kernel
theorem dX0_layOthers_30 : decode cX0_layOthers 30 = .ok (.iadd, 1) := by decide +kernel
theorem dX0_layOthers_31 : decode cX0_layOthers 31 = .ok (.iastore, 1) := by decide +kernel
theorem dX0_layOthers_32 : decode cX0_layOthers 32 = .ok (.aload_n 0, 1) := by decide +kernel
theorem dX0_layOthers_33 : decode cX0_layOthers 33 = .ok (.getfield 29, 3) := by decide +kernel
theorem dX0_layOthers_36 : decode cX0_layOthers 36 = .ok (.iconst 0, 1) := by decide +kernel
theorem dX0_layOthers_37 : decode cX0_layOthers 37 = .ok (.aaload, 1) := by decide +kernel
theorem dX0_layOthers_38 : decode cX0_layOthers 38 = .ok (.iload_n 3, 1) := by decide +kernel
theorem dX0_layOthers_39 : decode cX0_layOthers 39 = .ok (.iconst (-1), 1) := by decide +kernel
theorem dX0_layOthers_40 : decode cX0_layOthers 40 = .ok (.iastore, 1) := by decide +kernel
theorem dX0_layOthers_41 : decode cX0_layOthers 41 = .ok (.aload_n 0, 1) := by decide +kernel
theorem dX0_layOthers_42 : decode cX0_layOthers 42 = .ok (.getfield 32, 3) := by decide +kernel
theorem dX0_layOthers_45 : decode cX0_layOthers 45 = .ok (.iconst 0, 1) := by decide +kernel
theorem dX0_layOthers_46 : decode cX0_layOthers 46 = .ok (.aaload, 1) := by decide +kernel
theorem dX0_layOthers_47 : decode cX0_layOthers 47 = .ok (.iload_n 3, 1) := by decide +kernel
theorem dX0_layOthers_48 : decode cX0_layOthers 48 = .ok (.iconst 0, 1) := by decide +kernel
theorem dX0_layOthers_49 : decode cX0_layOthers 49 = .ok (.iastore, 1) := by decide +kernel
theorem dX0_layOthers_50 : decode cX0_layOthers 50 = .ok (.iconst 0, 1) := by decide +kernel
theorem dX0_layOthers_51 : decode cX0_layOthers 51 = .ok (.istore 4, 2) := by decide +kernel
theorem dX0_layOthers_53 : decode cX0_layOthers 53 = .ok (.iload 4, 2) := by decide +kernel
theorem dX0_layOthers_55 : decode cX0_layOthers 55 = .ok (.aload_n 0, 1) := by decide +kernel
theorem dX0_layOthers_56 : decode cX0_layOthers 56 = .ok (.getfield 41, 3) := by decide +kernel
theorem dX0_layOthers_59 : decode cX0_layOthers 59 = .ok (.getfield 102, 3) := by decide +kernel
theorem dX0_layOthers_62 : decode cX0_layOthers 62 = .ok (.if_icmp .ge 71, 3) := by decide +kernel
theorem dX0_layOthers_65 : decode cX0_layOthers 65 = .ok (.aload_n 1, 1) := by decide +kernel
theorem dX0_layOthers_66 : decode cX0_layOthers 66 = .ok (.iload_n 3, 1) := by decide +kernel
theorem dX0_layOthers_67 : decode cX0_layOthers 67 = .ok (.iload 4, 2) := by decide +kernel
theorem dX0_layOthers_69 : decode cX0_layOthers 69 = .ok (.invokevirtual 118, 3) := by decide +kernel
theorem dX0_layOthers_72 : decode cX0_layOthers 72 = .ok (.istore 5, 2) := by decide +kernel
theorem dX0_layOthers_74 : decode cX0_layOthers 74 = .ok (.iload 5, 2) := by decide +kernel
theorem dX0_layOthers_76 : decode cX0_layOthers 76 = .ok (.aload_n 0, 1) := by decide +kernel
theorem dX0_layOthers_77 : decode cX0_layOthers 77 = .ok (.getfield 26, 3) := by decide +kernel
theorem dX0_layOthers_80 : decode cX0_layOthers 80 = .ok (.iconst 0, 1) := by decide +kernel
theorem dX0_layOthers_81 : decode cX0_layOthers 81 = .ok (.aaload, 1) := by decide +kernel
theorem dX0_layOthers_82 : decode cX0_layOthers 82 = .ok (.iload_n 3, 1) := by decide +kernel
theorem dX0_layOthers_83 : decode cX0_layOthers 83 = .ok (.iaload, 1) := by decide +kernel
theorem dX0_layOthers_84 : decode cX0_layOthers 84 = .ok (.if_icmp .ge 43, 3) := by decide +kernel
theorem dX0_layOthers_87 : decode cX0_layOthers 87 = .ok (.aload_n 1, 1) := by decide +kernel
theorem dX0_layOthers_88 : decode cX0_layOthers 88 = .ok (.getfield 105, 3) := by decide +kernel
theorem dX0_layOthers_91 : decode cX0_layOthers 91 = .ok (.iload 4, 2) := by decide +kernel
theorem dX0_layOthers_93 : decode cX0_layOthers 93 = .ok (.iaload, 1) := by decide +kernel
theorem dX0_layOthers_94 : decode cX0_layOthers 94 = .ok (.iload_n 2, 1) := by decide +kernel
theorem dX0_layOthers_95 : decode cX0_layOthers 95 = .ok (.if_icmp .eq 32, 3) := by decide +kernel
theorem dX0_layOthers_98 : decode cX0_layOthers 98 = .ok (.aload_n 1, 1) := by decide +kernel
theorem dX0_layOthers_99 : decode cX0_layOthers 99 = .ok (.iload 4, 2) := by decide +kernel
theorem dX0_layOthers_101 : decode cX0_layOthers 101 = .ok (.invokevirtual 121, 3) := by decide +kernel
theorem dX0_layOthers_104 : decode cX0_layOthers 104 = .ok (.ifCond .eq 23, 3) := by decide +kernel
theorem dX0_layOthers_107 : decode cX0_layOthers 107 = .ok (.aload_n 0, 1) := by decide +kernel
theorem dX0_layOthers_108 : decode cX0_layOthers 108 = .ok (.getfield 26, 3) := by decide +kernel
theorem dX0_layOthers_111 : decode cX0_layOthers 111 = .ok (.iconst 0, 1) := by decide +kernel
theorem dX0_layOthers_112 : decode cX0_layOthers 112 = .ok (.aaload, 1) := by decide +kernel
theorem dX0_layOthers_113 : decode cX0_layOthers 113 = .ok (.iload_n 3, 1) := by decide +kernel
theorem dX0_layOthers_114 : decode cX0_layOthers 114 = .ok (.iload 5, 2) := by decide +kernel
theorem dX0_layOthers_116 : decode cX0_layOthers 116 = .ok (.iastore, 1) := by decide +kernel
theorem dX0_layOthers_117 : decode cX0_layOthers 117 = .ok (.aload_n 0, 1) := by decide +kernel
theorem dX0_layOthers_118 : decode cX0_layOthers 118 = .ok (.getfield 29, 3) := by decide +kernel
theorem dX0_layOthers_121 : decode cX0_layOthers 121 = .ok (.iconst 0, 1) := by decide +kernel
theorem dX0_layOthers_122 : decode cX0_layOthers 122 = .ok (.aaload, 1) := by decide +kernel
theorem dX0_layOthers_123 : decode cX0_layOthers 123 = .ok (.iload_n 3, 1) := by decide +kernel
theorem dX0_layOthers_124 : decode cX0_layOthers 124 = .ok (.iload 4, 2) := by decide +kernel
theorem dX0_layOthers_126 : decode cX0_layOthers 126 = .ok (.iastore, 1) := by decide +kernel
theorem dX0_layOthers_127 : decode cX0_layOthers 127 = .ok (.iinc 4 1, 3) := by decide +kernel
theorem dX0_layOthers_130 : decode cX0_layOthers 130 = .ok (.goto (-77), 3) := by decide +kernel
theorem dX0_layOthers_133 : decode cX0_layOthers 133 = .ok (.iinc 3 1, 3) := by decide +kernel
theorem dX0_layOthers_136 : decode cX0_layOthers 136 = .ok (.goto (-134), 3) := by decide +kernel
theorem dX0_layOthers_139 : decode cX0_layOthers 139 = .ok (.return_, 1) := by decide +kernel
theorem dX0_highestFor_0 : decode cX0_highestFor 0 = .ok (.aload_n 0, 1) := by decide +kernel
theorem dX0_highestFor_1 : decode cX0_highestFor 1 = .ok (.getfield 9, 3) := by decide +kernel
theorem dX0_highestFor_4 : decode cX0_highestFor 4 = .ok (.iload_n 1, 1) := by decide +kernel
theorem dX0_highestFor_5 : decode cX0_highestFor 5 = .ok (.iaload, 1) := by decide +kernel
theorem dX0_highestFor_6 : decode cX0_highestFor 6 = .ok (.istore_n 3, 1) := by decide +kernel
theorem dX0_highestFor_7 : decode cX0_highestFor 7 = .ok (.aload_n 0, 1) := by decide +kernel
theorem dX0_highestFor_8 : decode cX0_highestFor 8 = .ok (.getfield 26, 3) := by decide +kernel
theorem dX0_highestFor_11 : decode cX0_highestFor 11 = .ok (.iload_n 1, 1) := by decide +kernel
theorem dX0_highestFor_12 : decode cX0_highestFor 12 = .ok (.aaload, 1) := by decide +kernel
theorem dX0_highestFor_13 : decode cX0_highestFor 13 = .ok (.iload_n 2, 1) := by decide +kernel
theorem dX0_highestFor_14 : decode cX0_highestFor 14 = .ok (.iaload, 1) := by decide +kernel
theorem dX0_highestFor_15 : decode cX0_highestFor 15 = .ok (.aload_n 0, 1) := by decide +kernel
theorem dX0_highestFor_16 : decode cX0_highestFor 16 = .ok (.getfield 41, 3) := by decide +kernel
theorem dX0_highestFor_19 : decode cX0_highestFor 19 = .ok (.getfield 141, 3) := by decide +kernel
theorem dX0_highestFor_22 : decode cX0_highestFor 22 = .ok (.iload_n 2, 1) := by decide +kernel
theorem dX0_highestFor_23 : decode cX0_highestFor 23 = .ok (.aaload, 1) := by decide +kernel
theorem dX0_highestFor_24 : decode cX0_highestFor 24 = .ok (.iload_n 3, 1) := by decide +kernel
theorem dX0_highestFor_25 : decode cX0_highestFor 25 = .ok (.iaload, 1) := by decide +kernel
theorem dX0_highestFor_26 : decode cX0_highestFor 26 = .ok (.isub, 1) := by decide +kernel
theorem dX0_highestFor_27 : decode cX0_highestFor 27 = .ok (.istore 4, 2) := by decide +kernel
theorem dX0_highestFor_29 : decode cX0_highestFor 29 = .ok (.iload_n 3, 1) := by decide +kernel
theorem dX0_highestFor_30 : decode cX0_highestFor 30 = .ok (.aload_n 0, 1) := by decide +kernel
theorem dX0_highestFor_31 : decode cX0_highestFor 31 = .ok (.getfield 29, 3) := by decide +kernel
theorem dX0_highestFor_34 : decode cX0_highestFor 34 = .ok (.iload_n 1, 1) := by decide +kernel
theorem dX0_highestFor_35 : decode cX0_highestFor 35 = .ok (.aaload, 1) := by decide +kernel
theorem dX0_highestFor_36 : decode cX0_highestFor 36 = .ok (.iload_n 2, 1) := by decide +kernel
theorem dX0_highestFor_37 : decode cX0_highestFor 37 = .ok (.iaload, 1) := by decide +kernel
theorem dX0_highestFor_38 : decode cX0_highestFor 38 = .ok (.if_icmp .ge 8, 3) := by decide +kernel
theorem dX0_highestFor_41 : decode cX0_highestFor 41 = .ok (.iload 4, 2) := by decide +kernel
theorem dX0_highestFor_43 : decode cX0_highestFor 43 = .ok (.goto 7, 3) := by decide +kernel
theorem dX0_highestFor_46 : decode cX0_highestFor 46 = .ok (.iload 4, 2) := by decide +kernel
theorem dX0_highestFor_48 : decode cX0_highestFor 48 = .ok (.iconst 1, 1) := by decide +kernel
theorem dX0_highestFor_49 : decode cX0_highestFor 49 = .ok (.isub, 1) := by decide +kernel
theorem dX0_highestFor_50 : decode cX0_highestFor 50 = .ok (.ireturn, 1) := by decide +kernel
theorem dX0_putPrice_0 : decode cX0_putPrice 0 = .ok (.aload_n 0, 1) := by decide +kernel
theorem dX0_putPrice_1 : decode cX0_putPrice 1 = .ok (.getfield 18, 3) := by decide +kernel
theorem dX0_putPrice_4 : decode cX0_putPrice 4 = .ok (.iload_n 1, 1) := by decide +kernel
theorem dX0_putPrice_5 : decode cX0_putPrice 5 = .ok (.iload_n 2, 1) := by decide +kernel
theorem dX0_putPrice_6 : decode cX0_putPrice 6 = .ok (.iastore, 1) := by decide +kernel
theorem dX0_putPrice_7 : decode cX0_putPrice 7 = .ok (.aload_n 0, 1) := by decide +kernel
theorem dX0_putPrice_8 : decode cX0_putPrice 8 = .ok (.getfield 9, 3) := by decide +kernel
theorem dX0_putPrice_11 : decode cX0_putPrice 11 = .ok (.iload_n 1, 1) := by decide +kernel
theorem dX0_putPrice_12 : decode cX0_putPrice 12 = .ok (.iaload, 1) := by decide +kernel
theorem dX0_putPrice_13 : decode cX0_putPrice 13 = .ok (.istore_n 3, 1) := by decide +kernel
theorem dX0_putPrice_14 : decode cX0_putPrice 14 = .ok (.iconst 0, 1) := by decide +kernel
theorem dX0_putPrice_15 : decode cX0_putPrice 15 = .ok (.istore 4, 2) := by decide +kernel
theorem dX0_putPrice_17 : decode cX0_putPrice 17 = .ok (.iload 4, 2) := by decide +kernel
theorem dX0_putPrice_19 : decode cX0_putPrice 19 = .ok (.aload_n 0, 1) := by decide +kernel
theorem dX0_putPrice_20 : decode cX0_putPrice 20 = .ok (.getfield 41, 3) := by decide +kernel
theorem dX0_putPrice_23 : decode cX0_putPrice 23 = .ok (.getfield 112, 3) := by decide +kernel
theorem dX0_putPrice_26 : decode cX0_putPrice 26 = .ok (.if_icmp .ge 134, 3) := by decide +kernel
theorem dX0_putPrice_29 : decode cX0_putPrice 29 = .ok (.iload_n 2, 1) := by decide +kernel
theorem dX0_putPrice_30 : decode cX0_putPrice 30 = .ok (.aload_n 0, 1) := by decide +kernel
theorem dX0_putPrice_31 : decode cX0_putPrice 31 = .ok (.iload_n 1, 1) := by decide +kernel
theorem dX0_putPrice_32 : decode cX0_putPrice 32 = .ok (.iload 4, 2) := by decide +kernel
theorem dX0_putPrice_34 : decode cX0_putPrice 34 = .ok (.invokevirtual 138, 3) := by decide +kernel
theorem dX0_putPrice_37 : decode cX0_putPrice 37 = .ok (.if_icmp .gt 7, 3) := by decide +kernel
theorem dX0_putPrice_40 : decode cX0_putPrice 40 = .ok (.iconst 1, 1) := by decide +kernel
theorem dX0_putPrice_41 : decode cX0_putPrice 41 = .ok (.goto 4, 3) := by decide +kernel
theorem dX0_putPrice_44 : decode cX0_putPrice 44 = .ok (.iconst 0, 1) := by decide +kernel
theorem dX0_putPrice_45 : decode cX0_putPrice 45 = .ok (.istore 5, 2) := by decide +kernel
theorem dX0_putPrice_47 : decode cX0_putPrice 47 = .ok (.aload_n 0, 1) := by decide +kernel
theorem dX0_putPrice_48 : decode cX0_putPrice 48 = .ok (.getfield 26, 3) := by decide +kernel
theorem dX0_putPrice_51 : decode cX0_putPrice 51 = .ok (.iload_n 1, 1) := by decide +kernel
theorem dX0_putPrice_52 : decode cX0_putPrice 52 = .ok (.iconst 1, 1) := by decide +kernel
theorem dX0_putPrice_53 : decode cX0_putPrice 53 = .ok (.iadd, 1) := by decide +kernel
theorem dX0_putPrice_54 : decode cX0_putPrice 54 = .ok (.aaload, 1) := by decide +kernel
theorem dX0_putPrice_55 : decode cX0_putPrice 55 = .ok (.iload 4, 2) := by decide +kernel
theorem dX0_putPrice_57 : decode cX0_putPrice 57 = .ok (.iload 5, 2) := by decide +kernel
theorem dX0_putPrice_59 : decode cX0_putPrice 59 = .ok (.ifCond .eq 20, 3) := by decide +kernel
theorem dX0_putPrice_62 : decode cX0_putPrice 62 = .ok (.iload_n 2, 1) := by decide +kernel
theorem dX0_putPrice_63 : decode cX0_putPrice 63 = .ok (.aload_n 0, 1) := by decide +kernel
theorem dX0_putPrice_64 : decode cX0_putPrice 64 = .ok (.getfield 41, 3) := by decide +kernel
theorem dX0_putPrice_67 : decode cX0_putPrice 67 = .ok (.getfield 141, 3) := by decide +kernel
theorem dX0_putPrice_70 : decode cX0_putPrice 70 = .ok (.iload 4, 2) := by decide +kernel
theorem dX0_putPrice_72 : decode cX0_putPrice 72 = .ok (.aaload, 1) := by decide +kernel
theorem dX0_putPrice_73 : decode cX0_putPrice 73 = .ok (.iload_n 3, 1) := by decide +kernel
theorem dX0_putPrice_74 : decode cX0_putPrice 74 = .ok (.iaload, 1) := by decide +kernel
theorem dX0_putPrice_75 : decode cX0_putPrice 75 = .ok (.iadd, 1) := by decide +kernel
theorem dX0_putPrice_76 : decode cX0_putPrice 76 = .ok (.goto 12, 3) := by decide +kernel
theorem dX0_putPrice_79 : decode cX0_putPrice 79 = .ok (.aload_n 0, 1) := by decide +kernel
theorem dX0_putPrice_80 : decode cX0_putPrice 80 = .ok (.getfield 26, 3) := by decide +kernel
theorem dX0_putPrice_83 : decode cX0_putPrice 83 = .ok (.iload_n 1, 1) := by decide +kernel
theorem dX0_putPrice_84 : decode cX0_putPrice 84 = .ok (.aaload, 1) := by decide +kernel
theorem dX0_putPrice_85 : decode cX0_putPrice 85 = .ok (.iload 4, 2) := by decide +kernel
theorem dX0_putPrice_87 : decode cX0_putPrice 87 = .ok (.iaload, 1) := by decide +kernel
theorem dX0_putPrice_88 : decode cX0_putPrice 88 = .ok (.iastore, 1) := by decide +kernel
theorem dX0_putPrice_89 : decode cX0_putPrice 89 = .ok (.aload_n 0, 1) := by decide +kernel
theorem dX0_putPrice_90 : decode cX0_putPrice 90 = .ok (.getfield 29, 3) := by decide +kernel
theorem dX0_putPrice_93 : decode cX0_putPrice 93 = .ok (.iload_n 1, 1) := by decide +kernel
theorem dX0_putPrice_94 : decode cX0_putPrice 94 = .ok (.iconst 1, 1) := by decide +kernel
theorem dX0_putPrice_95 : decode cX0_putPrice 95 = .ok (.iadd, 1) := by decide +kernel
theorem dX0_putPrice_96 : decode cX0_putPrice 96 = .ok (.aaload, 1) := by decide +kernel
theorem dX0_putPrice_97 : decode cX0_putPrice 97 = .ok (.iload 4, 2) := by decide +kernel
theorem dX0_putPrice_99 : decode cX0_putPrice 99 = .ok (.iload 5, 2) := by decide +kernel
theorem dX0_putPrice_101 : decode cX0_putPrice 101 = .ok (.ifCond .eq 7, 3) := by decide +kernel
theorem dX0_putPrice_104 : decode cX0_putPrice 104 = .ok (.iload_n 3, 1) := by decide +kernel
theorem dX0_putPrice_105 : decode cX0_putPrice 105 = .ok (.goto 12, 3) := by decide +kernel
theorem dX0_putPrice_108 : decode cX0_putPrice 108 = .ok (.aload_n 0, 1) := by decide +kernel
theorem dX0_putPrice_109 : decode cX0_putPrice 109 = .ok (.getfield 29, 3) := by decide +kernel
theorem dX0_putPrice_112 : decode cX0_putPrice 112 = .ok (.iload_n 1, 1) := by decide +kernel
theorem dX0_putPrice_113 : decode cX0_putPrice 113 = .ok (.aaload, 1) := by decide +kernel
theorem dX0_putPrice_114 : decode cX0_putPrice 114 = .ok (.iload 4, 2) := by decide +kernel
theorem dX0_putPrice_116 : decode cX0_putPrice 116 = .ok (.iaload, 1) := by decide +kernel
theorem dX0_putPrice_117 : decode cX0_putPrice 117 = .ok (.iastore, 1) := by decide +kernel
theorem dX0_putPrice_118 : decode cX0_putPrice 118 = .ok (.aload_n 0, 1) := by decide +kernel
theorem dX0_putPrice_119 : decode cX0_putPrice 119 = .ok (.getfield 32, 3) := by decide +kernel
theorem dX0_putPrice_122 : decode cX0_putPrice 122 = .ok (.iload_n 1, 1) := by decide +kernel
theorem dX0_putPrice_123 : decode cX0_putPrice 123 = .ok (.iconst 1, 1) := by decide +kernel
theorem dX0_putPrice_124 : decode cX0_putPrice 124 = .ok (.iadd, 1) := by decide +kernel
theorem dX0_putPrice_125 : decode cX0_putPrice 125 = .ok (.aaload, 1) := by decide +kernel
theorem dX0_putPrice_126 : decode cX0_putPrice 126 = .ok (.iload 4, 2) := by decide +kernel
theorem dX0_putPrice_128 : decode cX0_putPrice 128 = .ok (.iload 5, 2) := by decide +kernel
theorem dX0_putPrice_130 : decode cX0_putPrice 130 = .ok (.ifCond .eq 14, 3) := by decide +kernel
theorem dX0_putPrice_133 : decode cX0_putPrice 133 = .ok (.iload_n 2, 1) := by decide +kernel
theorem dX0_putPrice_134 : decode cX0_putPrice 134 = .ok (.aload_n 0, 1) := by decide +kernel
theorem dX0_putPrice_135 : decode cX0_putPrice 135 = .ok (.getfield 15, 3) := by decide +kernel
theorem dX0_putPrice_138 : decode cX0_putPrice 138 = .ok (.iload_n 1, 1) := by decide +kernel
theorem dX0_putPrice_139 : decode cX0_putPrice 139 = .ok (.iaload, 1) := by decide +kernel
theorem dX0_putPrice_140 : decode cX0_putPrice 140 = .ok (.isub, 1) := by decide +kernel
theorem dX0_putPrice_141 : decode cX0_putPrice 141 = .ok (.goto 12, 3) := by decide +kernel
theorem dX0_putPrice_144 : decode cX0_putPrice 144 = .ok (.aload_n 0, 1) := by decide +kernel
theorem dX0_putPrice_145 : decode cX0_putPrice 145 = .ok (.getfield 32, 3) := by decide +kernel
theorem dX0_putPrice_148 : decode cX0_putPrice 148 = .ok (.iload_n 1, 1) := by decide +kernel
theorem dX0_putPrice_149 : decode cX0_putPrice 149 = .ok (.aaload, 1) := by decide +kernel
theorem dX0_putPrice_150 : decode cX0_putPrice 150 = .ok (.iload 4, 2) := by decide +kernel
theorem dX0_putPrice_152 : decode cX0_putPrice 152 = .ok (.iaload, 1) := by decide +kernel
theorem dX0_putPrice_153 : decode cX0_putPrice 153 = .ok (.iastore, 1) := by decide +kernel
theorem dX0_putPrice_154 : decode cX0_putPrice 154 = .ok (.iinc 4 1, 3) := by decide +kernel
theorem dX0_putPrice_157 : decode cX0_putPrice 157 = .ok (.goto (-140), 3) := by decide +kernel
theorem dX0_putPrice_160 : decode cX0_putPrice 160 = .ok (.return_, 1) := by decide +kernel
theorem dX0_keepIfBetter_0 : decode cX0_keepIfBetter 0 = .ok (.iload_n 1, 1) := by decide +kernel
theorem dX0_keepIfBetter_1 : decode cX0_keepIfBetter 1 = .ok (.aload_n 0, 1) := by decide +kernel
theorem dX0_keepIfBetter_2 : decode cX0_keepIfBetter 2 = .ok (.getfield 85, 3) := by decide +kernel
theorem dX0_keepIfBetter_5 : decode cX0_keepIfBetter 5 = .ok (.if_icmp .le 36, 3) := by decide +kernel
theorem dX0_keepIfBetter_8 : decode cX0_keepIfBetter 8 = .ok (.aload_n 0, 1) := by decide +kernel
theorem dX0_keepIfBetter_9 : decode cX0_keepIfBetter 9 = .ok (.iload_n 1, 1) := by decide +kernel
theorem dX0_keepIfBetter_10 : decode cX0_keepIfBetter 10 = .ok (.putfield 85, 3) := by decide +kernel
theorem dX0_keepIfBetter_13 : decode cX0_keepIfBetter 13 = .ok (.iconst 0, 1) := by decide +kernel
theorem dX0_keepIfBetter_14 : decode cX0_keepIfBetter 14 = .ok (.istore_n 2, 1) := by decide +kernel
theorem dX0_keepIfBetter_15 : decode cX0_keepIfBetter 15 = .ok (.iload_n 2, 1) := by decide +kernel
theorem dX0_keepIfBetter_16 : decode cX0_keepIfBetter 16 = .ok (.aload_n 0, 1) := by decide +kernel
theorem dX0_keepIfBetter_17 : decode cX0_keepIfBetter 17 = .ok (.getfield 59, 3) := by decide +kernel
theorem dX0_keepIfBetter_20 : decode cX0_keepIfBetter 20 = .ok (.if_icmp .ge 21, 3) := by decide +kernel
theorem dX0_keepIfBetter_23 : decode cX0_keepIfBetter 23 = .ok (.aload_n 0, 1) := by decide +kernel
theorem dX0_keepIfBetter_24 : decode cX0_keepIfBetter 24 = .ok (.getfield 21, 3) := by decide +kernel
theorem dX0_keepIfBetter_27 : decode cX0_keepIfBetter 27 = .ok (.iload_n 2, 1) := by decide +kernel
theorem dX0_keepIfBetter_28 : decode cX0_keepIfBetter 28 = .ok (.aload_n 0, 1) := by decide +kernel
theorem dX0_keepIfBetter_29 : decode cX0_keepIfBetter 29 = .ok (.getfield 18, 3) := by decide +kernel
theorem dX0_keepIfBetter_32 : decode cX0_keepIfBetter 32 = .ok (.iload_n 2, 1) := by decide +kernel
theorem dX0_keepIfBetter_33 : decode cX0_keepIfBetter 33 = .ok (.iaload, 1) := by decide +kernel
theorem dX0_keepIfBetter_34 : decode cX0_keepIfBetter 34 = .ok (.iastore, 1) := by decide +kernel
theorem dX0_keepIfBetter_35 : decode cX0_keepIfBetter 35 = .ok (.iinc 2 1, 3) := by decide +kernel
theorem dX0_keepIfBetter_38 : decode cX0_keepIfBetter 38 = .ok (.goto (-23), 3) := by decide +kernel
theorem dX0_keepIfBetter_41 : decode cX0_keepIfBetter 41 = .ok (.return_, 1) := by decide +kernel
theorem dX0_tryOnePrice_0 : decode cX0_tryOnePrice 0 = .ok (.iconst 0, 1) := by decide +kernel
theorem dX0_tryOnePrice_1 : decode cX0_tryOnePrice 1 = .ok (.istore_n 1, 1) := by decide +kernel
theorem dX0_tryOnePrice_2 : decode cX0_tryOnePrice 2 = .ok (.iload_n 1, 1) := by decide +kernel
theorem dX0_tryOnePrice_3 : decode cX0_tryOnePrice 3 = .ok (.bipush 9, 2) := by decide +kernel
theorem dX0_tryOnePrice_5 : decode cX0_tryOnePrice 5 = .ok (.if_icmp .gt 81, 3) := by decide +kernel
theorem dX0_tryOnePrice_8 : decode cX0_tryOnePrice 8 = .ok (.iconst 0, 1) := by decide +kernel
theorem dX0_tryOnePrice_9 : decode cX0_tryOnePrice 9 = .ok (.istore_n 2, 1) := by decide +kernel
theorem dX0_tryOnePrice_10 : decode cX0_tryOnePrice 10 = .ok (.iload_n 2, 1) := by decide +kernel
theorem dX0_tryOnePrice_11 : decode cX0_tryOnePrice 11 = .ok (.aload_n 0, 1) := by decide +kernel
theorem dX0_tryOnePrice_12 : decode cX0_tryOnePrice 12 = .ok (.getfield 59, 3) := by decide +kernel
theorem dX0_tryOnePrice_15 : decode cX0_tryOnePrice 15 = .ok (.if_icmp .ge 15, 3) := by decide +kernel
theorem dX0_tryOnePrice_18 : decode cX0_tryOnePrice 18 = .ok (.aload_n 0, 1) := by decide +kernel
theorem dX0_tryOnePrice_19 : decode cX0_tryOnePrice 19 = .ok (.iload_n 2, 1) := by decide +kernel
theorem dX0_tryOnePrice_20 : decode cX0_tryOnePrice 20 = .ok (.iload_n 1, 1) := by decide +kernel
theorem dX0_tryOnePrice_21 : decode cX0_tryOnePrice 21 = .ok (.invokevirtual 125, 3) := by decide +kernel
theorem dX0_tryOnePrice_24 : decode cX0_tryOnePrice 24 = .ok (.iinc 2 1, 3) := by decide +kernel
theorem dX0_tryOnePrice_27 : decode cX0_tryOnePrice 27 = .ok (.goto (-17), 3) := by decide +kernel
theorem dX0_tryOnePrice_30 : decode cX0_tryOnePrice 30 = .ok (.iconst 0, 1) := by decide +kernel
theorem dX0_tryOnePrice_31 : decode cX0_tryOnePrice 31 = .ok (.istore_n 2, 1) := by decide +kernel
theorem dX0_tryOnePrice_32 : decode cX0_tryOnePrice 32 = .ok (.iconst 0, 1) := by decide +kernel
theorem dX0_tryOnePrice_33 : decode cX0_tryOnePrice 33 = .ok (.istore_n 3, 1) := by decide +kernel
theorem dX0_tryOnePrice_34 : decode cX0_tryOnePrice 34 = .ok (.iload_n 3, 1) := by decide +kernel
theorem dX0_tryOnePrice_35 : decode cX0_tryOnePrice 35 = .ok (.aload_n 0, 1) := by decide +kernel
theorem dX0_tryOnePrice_36 : decode cX0_tryOnePrice 36 = .ok (.getfield 41, 3) := by decide +kernel
theorem dX0_tryOnePrice_39 : decode cX0_tryOnePrice 39 = .ok (.getfield 112, 3) := by decide +kernel
theorem dX0_tryOnePrice_42 : decode cX0_tryOnePrice 42 = .ok (.if_icmp .ge 33, 3) := by decide +kernel
theorem dX0_tryOnePrice_45 : decode cX0_tryOnePrice 45 = .ok (.iload_n 2, 1) := by decide +kernel
theorem dX0_tryOnePrice_46 : decode cX0_tryOnePrice 46 = .ok (.aload_n 0, 1) := by decide +kernel
theorem dX0_tryOnePrice_47 : decode cX0_tryOnePrice 47 = .ok (.getfield 41, 3) := by decide +kernel
theorem dX0_tryOnePrice_50 : decode cX0_tryOnePrice 50 = .ok (.getfield 129, 3) := by decide +kernel
theorem dX0_tryOnePrice_53 : decode cX0_tryOnePrice 53 = .ok (.iload_n 3, 1) := by decide +kernel
theorem dX0_tryOnePrice_54 : decode cX0_tryOnePrice 54 = .ok (.iaload, 1) := by decide +kernel
theorem dX0_tryOnePrice_55 : decode cX0_tryOnePrice 55 = .ok (.aload_n 0, 1) := by decide +kernel
theorem dX0_tryOnePrice_56 : decode cX0_tryOnePrice 56 = .ok (.getfield 32, 3) := by decide +kernel
theorem dX0_tryOnePrice_59 : decode cX0_tryOnePrice 59 = .ok (.aload_n 0, 1) := by decide +kernel
theorem dX0_tryOnePrice_60 : decode cX0_tryOnePrice 60 = .ok (.getfield 59, 3) := by decide +kernel
theorem dX0_tryOnePrice_63 : decode cX0_tryOnePrice 63 = .ok (.aaload, 1) := by decide +kernel
theorem dX0_tryOnePrice_64 : decode cX0_tryOnePrice 64 = .ok (.iload_n 3, 1) := by decide +kernel
theorem dX0_tryOnePrice_65 : decode cX0_tryOnePrice 65 = .ok (.iaload, 1) := by decide +kernel
theorem dX0_tryOnePrice_66 : decode cX0_tryOnePrice 66 = .ok (.imul, 1) := by decide +kernel
theorem dX0_tryOnePrice_67 : decode cX0_tryOnePrice 67 = .ok (.iadd, 1) := by decide +kernel
theorem dX0_tryOnePrice_68 : decode cX0_tryOnePrice 68 = .ok (.istore_n 2, 1) := by decide +kernel
theorem dX0_tryOnePrice_69 : decode cX0_tryOnePrice 69 = .ok (.iinc 3 1, 3) := by decide +kernel
theorem dX0_tryOnePrice_72 : decode cX0_tryOnePrice 72 = .ok (.goto (-38), 3) := by decide +kernel
theorem dX0_tryOnePrice_75 : decode cX0_tryOnePrice 75 = .ok (.aload_n 0, 1) := by decide +kernel
theorem dX0_tryOnePrice_76 : decode cX0_tryOnePrice 76 = .ok (.iload_n 2, 1) := by decide +kernel
theorem dX0_tryOnePrice_77 : decode cX0_tryOnePrice 77 = .ok (.invokevirtual 132, 3) := by decide +kernel
theorem dX0_tryOnePrice_80 : decode cX0_tryOnePrice 80 = .ok (.iinc 1 1, 3) := by decide +kernel
theorem dX0_tryOnePrice_83 : decode cX0_tryOnePrice 83 = .ok (.goto (-81), 3) := by decide +kernel
theorem dX0_tryOnePrice_86 : decode cX0_tryOnePrice 86 = .ok (.return_, 1) := by decide +kernel
theorem dX0_tryLastPrice_0 : decode cX0_tryLastPrice 0 = .ok (.iconst 0, 1) := by decide +kernel
theorem dX0_tryLastPrice_1 : decode cX0_tryLastPrice 1 = .ok (.istore_n 2, 1) := by decide +kernel
theorem dX0_tryLastPrice_2 : decode cX0_tryLastPrice 2 = .ok (.iload_n 2, 1) := by decide +kernel
theorem dX0_tryLastPrice_3 : decode cX0_tryLastPrice 3 = .ok (.bipush 9, 2) := by decide +kernel
theorem dX0_tryLastPrice_5 : decode cX0_tryLastPrice 5 = .ok (.if_icmp .gt 23, 3) := by decide +kernel
theorem dX0_tryLastPrice_8 : decode cX0_tryLastPrice 8 = .ok (.aload_n 0, 1) := by decide +kernel
theorem dX0_tryLastPrice_9 : decode cX0_tryLastPrice 9 = .ok (.getfield 35, 3) := by decide +kernel
theorem dX0_tryLastPrice_12 : decode cX0_tryLastPrice 12 = .ok (.iload_n 2, 1) := by decide +kernel
theorem dX0_tryLastPrice_13 : decode cX0_tryLastPrice 13 = .ok (.iconst 0, 1) := by decide +kernel
theorem dX0_tryLastPrice_14 : decode cX0_tryLastPrice 14 = .ok (.iastore, 1) := by decide +kernel
theorem dX0_tryLastPrice_15 : decode cX0_tryLastPrice 15 = .ok (.aload_n 0, 1) := by decide +kernel
theorem dX0_tryLastPrice_16 : decode cX0_tryLastPrice 16 = .ok (.getfield 38, 3) := by decide +kernel
theorem dX0_tryLastPrice_19 : decode cX0_tryLastPrice 19 = .ok (.iload_n 2, 1) := by decide +kernel
theorem dX0_tryLastPrice_20 : decode cX0_tryLastPrice 20 = .ok (.iconst 0, 1) := by decide +kernel
theorem dX0_tryLastPrice_21 : decode cX0_tryLastPrice 21 = .ok (.iastore, 1) := by decide +kernel
theorem dX0_tryLastPrice_22 : decode cX0_tryLastPrice 22 = .ok (.iinc 2 1, 3) := by decide +kernel
theorem dX0_tryLastPrice_25 : decode cX0_tryLastPrice 25 = .ok (.goto (-23), 3) := by decide +kernel
theorem dX0_tryLastPrice_28 : decode cX0_tryLastPrice 28 = .ok (.iconst 0, 1) := by decide +kernel
theorem dX0_tryLastPrice_29 : decode cX0_tryLastPrice 29 = .ok (.istore_n 2, 1) := by decide +kernel
theorem dX0_tryLastPrice_30 : decode cX0_tryLastPrice 30 = .ok (.iconst 0, 1) := by decide +kernel
theorem dX0_tryLastPrice_31 : decode cX0_tryLastPrice 31 = .ok (.istore_n 3, 1) := by decide +kernel
theorem dX0_tryLastPrice_32 : decode cX0_tryLastPrice 32 = .ok (.iconst 0, 1) := by decide +kernel
theorem dX0_tryLastPrice_33 : decode cX0_tryLastPrice 33 = .ok (.istore 4, 2) := by decide +kernel
theorem dX0_tryLastPrice_35 : decode cX0_tryLastPrice 35 = .ok (.iload 4, 2) := by decide +kernel
theorem dX0_tryLastPrice_37 : decode cX0_tryLastPrice 37 = .ok (.aload_n 0, 1) := by decide +kernel
theorem dX0_tryLastPrice_38 : decode cX0_tryLastPrice 38 = .ok (.getfield 41, 3) := by decide +kernel
theorem dX0_tryLastPrice_41 : decode cX0_tryLastPrice 41 = .ok (.getfield 112, 3) := by decide +kernel
theorem dX0_tryLastPrice_44 : decode cX0_tryLastPrice 44 = .ok (.if_icmp .ge 103, 3) := by decide +kernel
theorem dX0_tryLastPrice_47 : decode cX0_tryLastPrice 47 = .ok (.aload_n 0, 1) := by decide +kernel
theorem dX0_tryLastPrice_48 : decode cX0_tryLastPrice 48 = .ok (.getfield 41, 3) := by decide +kernel
theorem dX0_tryLastPrice_51 : decode cX0_tryLastPrice 51 = .ok (.getfield 129, 3) := by decide +kernel
theorem dX0_tryLastPrice_54 : decode cX0_tryLastPrice 54 = .ok (.iload 4, 2) := by decide +kernel
theorem dX0_tryLastPrice_56 : decode cX0_tryLastPrice 56 = .ok (.iaload, 1) := by decide +kernel
theorem dX0_tryLastPrice_57 : decode cX0_tryLastPrice 57 = .ok (.aload_n 0, 1) := by decide +kernel
theorem dX0_tryLastPrice_58 : decode cX0_tryLastPrice 58 = .ok (.getfield 32, 3) := by decide +kernel
theorem dX0_tryLastPrice_61 : decode cX0_tryLastPrice 61 = .ok (.iload_n 1, 1) := by decide +kernel
theorem dX0_tryLastPrice_62 : decode cX0_tryLastPrice 62 = .ok (.aaload, 1) := by decide +kernel
theorem dX0_tryLastPrice_63 : decode cX0_tryLastPrice 63 = .ok (.iload 4, 2) := by decide +kernel
theorem dX0_tryLastPrice_65 : decode cX0_tryLastPrice 65 = .ok (.iaload, 1) := by decide +kernel
theorem dX0_tryLastPrice_66 : decode cX0_tryLastPrice 66 = .ok (.imul, 1) := by decide +kernel
theorem dX0_tryLastPrice_67 : decode cX0_tryLastPrice 67 = .ok (.istore 5, 2) := by decide +kernel
theorem dX0_tryLastPrice_69 : decode cX0_tryLastPrice 69 = .ok (.bipush 9, 2) := by decide +kernel
theorem dX0_tryLastPrice_71 : decode cX0_tryLastPrice 71 = .ok (.aload_n 0, 1) := by decide +kernel
theorem dX0_tryLastPrice_72 : decode cX0_tryLastPrice 72 = .ok (.iload_n 1, 1) := by decide +kernel
theorem dX0_tryLastPrice_73 : decode cX0_tryLastPrice 73 = .ok (.iload 4, 2) := by decide +kernel
theorem dX0_tryLastPrice_75 : decode cX0_tryLastPrice 75 = .ok (.invokevirtual 138, 3) := by decide +kernel
theorem dX0_tryLastPrice_78 : decode cX0_tryLastPrice 78 = .ok (.invokestatic 144, 3) := by decide +kernel
theorem dX0_tryLastPrice_81 : decode cX0_tryLastPrice 81 = .ok (.istore 6, 2) := by decide +kernel
theorem dX0_tryLastPrice_83 : decode cX0_tryLastPrice 83 = .ok (.iload 6, 2) := by decide +kernel
theorem dX0_tryLastPrice_85 : decode cX0_tryLastPrice 85 = .ok (.ifCond .ge 11, 3) := by decide +kernel
theorem dX0_tryLastPrice_88 : decode cX0_tryLastPrice 88 = .ok (.iload_n 3, 1) := by decide +kernel
theorem dX0_tryLastPrice_89 : decode cX0_tryLastPrice 89 = .ok (.iload 5, 2) := by decide +kernel
theorem dX0_tryLastPrice_91 : decode cX0_tryLastPrice 91 = .ok (.iadd, 1) := by decide +kernel
theorem dX0_tryLastPrice_92 : decode cX0_tryLastPrice 92 = .ok (.istore_n 3, 1) := by decide +kernel
theorem dX0_tryLastPrice_93 : decode cX0_tryLastPrice 93 = .ok (.goto 48, 3) := by decide +kernel
theorem dX0_tryLastPrice_96 : decode cX0_tryLastPrice 96 = .ok (.iload_n 2, 1) := by decide +kernel
theorem dX0_tryLastPrice_97 : decode cX0_tryLastPrice 97 = .ok (.aload_n 0, 1) := by decide +kernel
theorem dX0_tryLastPrice_98 : decode cX0_tryLastPrice 98 = .ok (.getfield 41, 3) := by decide +kernel
theorem dX0_tryLastPrice_101 : decode cX0_tryLastPrice 101 = .ok (.getfield 129, 3) := by decide +kernel
theorem dX0_tryLastPrice_104 : decode cX0_tryLastPrice 104 = .ok (.iload 4, 2) := by decide +kernel
theorem dX0_tryLastPrice_106 : decode cX0_tryLastPrice 106 = .ok (.iaload, 1) := by decide +kernel
theorem dX0_tryLastPrice_107 : decode cX0_tryLastPrice 107 = .ok (.iadd, 1) := by decide +kernel
theorem dX0_tryLastPrice_108 : decode cX0_tryLastPrice 108 = .ok (.istore_n 2, 1) := by decide +kernel
theorem dX0_tryLastPrice_109 : decode cX0_tryLastPrice 109 = .ok (.aload_n 0, 1) := by decide +kernel
theorem dX0_tryLastPrice_110 : decode cX0_tryLastPrice 110 = .ok (.getfield 35, 3) := by decide +kernel
theorem dX0_tryLastPrice_113 : decode cX0_tryLastPrice 113 = .ok (.iload 6, 2) := by decide +kernel
theorem dX0_tryLastPrice_115 : decode cX0_tryLastPrice 115 = .ok (.dup2, 1) := by decide +kernel
theorem dX0_tryLastPrice_116 : decode cX0_tryLastPrice 116 = .ok (.iaload, 1) := by decide +kernel
theorem dX0_tryLastPrice_117 : decode cX0_tryLastPrice 117 = .ok (.aload_n 0, 1) := by decide +kernel
theorem dX0_tryLastPrice_118 : decode cX0_tryLastPrice 118 = .ok (.getfield 41, 3) := by decide +kernel
theorem dX0_tryLastPrice_121 : decode cX0_tryLastPrice 121 = .ok (.getfield 129, 3) := by decide +kernel
theorem dX0_tryLastPrice_124 : decode cX0_tryLastPrice 124 = .ok (.iload 4, 2) := by decide +kernel
theorem dX0_tryLastPrice_126 : decode cX0_tryLastPrice 126 = .ok (.iaload, 1) := by decide +kernel
theorem dX0_tryLastPrice_127 : decode cX0_tryLastPrice 127 = .ok (.iadd, 1) := by decide +kernel
theorem dX0_tryLastPrice_128 : decode cX0_tryLastPrice 128 = .ok (.iastore, 1) := by decide +kernel
theorem dX0_tryLastPrice_129 : decode cX0_tryLastPrice 129 = .ok (.aload_n 0, 1) := by decide +kernel
theorem dX0_tryLastPrice_130 : decode cX0_tryLastPrice 130 = .ok (.getfield 38, 3) := by decide +kernel
theorem dX0_tryLastPrice_133 : decode cX0_tryLastPrice 133 = .ok (.iload 6, 2) := by decide +kernel
theorem dX0_tryLastPrice_135 : decode cX0_tryLastPrice 135 = .ok (.dup2, 1) := by decide +kernel
theorem dX0_tryLastPrice_136 : decode cX0_tryLastPrice 136 = .ok (.iaload, 1) := by decide +kernel
theorem dX0_tryLastPrice_137 : decode cX0_tryLastPrice 137 = .ok (.iload 5, 2) := by decide +kernel
theorem dX0_tryLastPrice_139 : decode cX0_tryLastPrice 139 = .ok (.iadd, 1) := by decide +kernel
theorem dX0_tryLastPrice_140 : decode cX0_tryLastPrice 140 = .ok (.iastore, 1) := by decide +kernel
theorem dX0_tryLastPrice_141 : decode cX0_tryLastPrice 141 = .ok (.iinc 4 1, 3) := by decide +kernel
theorem dX0_tryLastPrice_144 : decode cX0_tryLastPrice 144 = .ok (.goto (-109), 3) := by decide +kernel
theorem dX0_tryLastPrice_147 : decode cX0_tryLastPrice 147 = .ok (.iconst 0, 1) := by decide +kernel
theorem dX0_tryLastPrice_148 : decode cX0_tryLastPrice 148 = .ok (.istore 4, 2) := by decide +kernel
theorem dX0_tryLastPrice_150 : decode cX0_tryLastPrice 150 = .ok (.iload 4, 2) := by decide +kernel
theorem dX0_tryLastPrice_152 : decode cX0_tryLastPrice 152 = .ok (.bipush 9, 2) := by decide +kernel
theorem dX0_tryLastPrice_154 : decode cX0_tryLastPrice 154 = .ok (.if_icmp .gt 54, 3) := by decide +kernel
theorem dX0_tryLastPrice_157 : decode cX0_tryLastPrice 157 = .ok (.aload_n 0, 1) := by decide +kernel
theorem dX0_tryLastPrice_158 : decode cX0_tryLastPrice 158 = .ok (.getfield 18, 3) := by decide +kernel
theorem dX0_tryLastPrice_161 : decode cX0_tryLastPrice 161 = .ok (.iload_n 1, 1) := by decide +kernel
theorem dX0_tryLastPrice_162 : decode cX0_tryLastPrice 162 = .ok (.iload 4, 2) := by decide +kernel
theorem dX0_tryLastPrice_164 : decode cX0_tryLastPrice 164 = .ok (.iastore, 1) := by decide +kernel
theorem dX0_tryLastPrice_165 : decode cX0_tryLastPrice 165 = .ok (.aload_n 0, 1) := by decide +kernel
theorem dX0_tryLastPrice_166 : decode cX0_tryLastPrice 166 = .ok (.iload_n 3, 1) := by decide +kernel
theorem dX0_tryLastPrice_167 : decode cX0_tryLastPrice 167 = .ok (.iload_n 2, 1) := by decide +kernel
theorem dX0_tryLastPrice_168 : decode cX0_tryLastPrice 168 = .ok (.iload 4, 2) := by decide +kernel
theorem dX0_tryLastPrice_170 : decode cX0_tryLastPrice 170 = .ok (.aload_n 0, 1) := by decide +kernel
theorem dX0_tryLastPrice_171 : decode cX0_tryLastPrice 171 = .ok (.getfield 15, 3) := by decide +kernel
theorem dX0_tryLastPrice_174 : decode cX0_tryLastPrice 174 = .ok (.iload_n 1, 1) := by decide +kernel
theorem dX0_tryLastPrice_175 : decode cX0_tryLastPrice 175 = .ok (.iaload, 1) := by decide +kernel
theorem dX0_tryLastPrice_176 : decode cX0_tryLastPrice 176 = .ok (.isub, 1) := by decide +kernel
theorem dX0_tryLastPrice_177 : decode cX0_tryLastPrice 177 = .ok (.imul, 1) := by decide +kernel
theorem dX0_tryLastPrice_178 : decode cX0_tryLastPrice 178 = .ok (.iadd, 1) := by decide +kernel
theorem dX0_tryLastPrice_179 : decode cX0_tryLastPrice 179 = .ok (.invokevirtual 132, 3) := by decide +kernel
theorem dX0_tryLastPrice_182 : decode cX0_tryLastPrice 182 = .ok (.iload_n 2, 1) := by decide +kernel
theorem dX0_tryLastPrice_183 : decode cX0_tryLastPrice 183 = .ok (.aload_n 0, 1) := by decide +kernel
theorem dX0_tryLastPrice_184 : decode cX0_tryLastPrice 184 = .ok (.getfield 35, 3) := by decide +kernel
theorem dX0_tryLastPrice_187 : decode cX0_tryLastPrice 187 = .ok (.iload 4, 2) := by decide +kernel
theorem dX0_tryLastPrice_189 : decode cX0_tryLastPrice 189 = .ok (.iaload, 1) := by decide +kernel
theorem dX0_tryLastPrice_190 : decode cX0_tryLastPrice 190 = .ok (.isub, 1) := by decide +kernel
theorem dX0_tryLastPrice_191 : decode cX0_tryLastPrice 191 = .ok (.istore_n 2, 1) := by decide +kernel
theorem dX0_tryLastPrice_192 : decode cX0_tryLastPrice 192 = .ok (.iload_n 3, 1) := by decide +kernel
theorem dX0_tryLastPrice_193 : decode cX0_tryLastPrice 193 = .ok (.aload_n 0, 1) := by decide +kernel
theorem dX0_tryLastPrice_194 : decode cX0_tryLastPrice 194 = .ok (.getfield 38, 3) := by decide +kernel
theorem dX0_tryLastPrice_197 : decode cX0_tryLastPrice 197 = .ok (.iload 4, 2) := by decide +kernel
theorem dX0_tryLastPrice_199 : decode cX0_tryLastPrice 199 = .ok (.iaload, 1) := by decide +kernel
theorem dX0_tryLastPrice_200 : decode cX0_tryLastPrice 200 = .ok (.iadd, 1) := by decide +kernel
theorem dX0_tryLastPrice_201 : decode cX0_tryLastPrice 201 = .ok (.istore_n 3, 1) := by decide +kernel
theorem dX0_tryLastPrice_202 : decode cX0_tryLastPrice 202 = .ok (.iinc 4 1, 3) := by decide +kernel
theorem dX0_tryLastPrice_205 : decode cX0_tryLastPrice 205 = .ok (.goto (-55), 3) := by decide +kernel
theorem dX0_tryLastPrice_208 : decode cX0_tryLastPrice 208 = .ok (.return_, 1) := by decide +kernel
theorem dX0_tryPrices_0 : decode cX0_tryPrices 0 = .ok (.iload_n 1, 1) := by decide +kernel
theorem dX0_tryPrices_1 : decode cX0_tryPrices 1 = .ok (.aload_n 0, 1) := by decide +kernel
theorem dX0_tryPrices_2 : decode cX0_tryPrices 2 = .ok (.getfield 59, 3) := by decide +kernel
theorem dX0_tryPrices_5 : decode cX0_tryPrices 5 = .ok (.iconst 1, 1) := by decide +kernel
theorem dX0_tryPrices_6 : decode cX0_tryPrices 6 = .ok (.isub, 1) := by decide +kernel
theorem dX0_tryPrices_7 : decode cX0_tryPrices 7 = .ok (.if_icmp .lt 14, 3) := by decide +kernel
theorem dX0_tryPrices_10 : decode cX0_tryPrices 10 = .ok (.aload_n 0, 1) := by decide +kernel
theorem dX0_tryPrices_11 : decode cX0_tryPrices 11 = .ok (.aload_n 0, 1) := by decide +kernel
theorem dX0_tryPrices_12 : decode cX0_tryPrices 12 = .ok (.getfield 59, 3) := by decide +kernel
theorem dX0_tryPrices_15 : decode cX0_tryPrices 15 = .ok (.iconst 1, 1) := by decide +kernel
theorem dX0_tryPrices_16 : decode cX0_tryPrices 16 = .ok (.isub, 1) := by decide +kernel
theorem dX0_tryPrices_17 : decode cX0_tryPrices 17 = .ok (.invokevirtual 135, 3) := by decide +kernel
theorem dX0_tryPrices_20 : decode cX0_tryPrices 20 = .ok (.return_, 1) := by decide +kernel
theorem dX0_tryPrices_21 : decode cX0_tryPrices 21 = .ok (.iconst 0, 1) := by decide +kernel
theorem dX0_tryPrices_22 : decode cX0_tryPrices 22 = .ok (.istore_n 2, 1) := by decide +kernel
theorem dX0_tryPrices_23 : decode cX0_tryPrices 23 = .ok (.iload_n 2, 1) := by decide +kernel
theorem dX0_tryPrices_24 : decode cX0_tryPrices 24 = .ok (.bipush 9, 2) := by decide +kernel
theorem dX0_tryPrices_26 : decode cX0_tryPrices 26 = .ok (.if_icmp .gt 22, 3) := by decide +kernel
theorem dX0_tryPrices_29 : decode cX0_tryPrices 29 = .ok (.aload_n 0, 1) := by decide +kernel
theorem dX0_tryPrices_30 : decode cX0_tryPrices 30 = .ok (.iload_n 1, 1) := by decide +kernel
theorem dX0_tryPrices_31 : decode cX0_tryPrices 31 = .ok (.iload_n 2, 1) := by decide +kernel
theorem dX0_tryPrices_32 : decode cX0_tryPrices 32 = .ok (.invokevirtual 125, 3) := by decide +kernel
theorem dX0_tryPrices_35 : decode cX0_tryPrices 35 = .ok (.aload_n 0, 1) := by decide +kernel
theorem dX0_tryPrices_36 : decode cX0_tryPrices 36 = .ok (.iload_n 1, 1) := by decide +kernel
theorem dX0_tryPrices_37 : decode cX0_tryPrices 37 = .ok (.iconst 1, 1) := by decide +kernel
theorem dX0_tryPrices_38 : decode cX0_tryPrices 38 = .ok (.iadd, 1) := by decide +kernel
theorem dX0_tryPrices_39 : decode cX0_tryPrices 39 = .ok (.invokevirtual 95, 3) := by decide +kernel
theorem dX0_tryPrices_42 : decode cX0_tryPrices 42 = .ok (.iinc 2 1, 3) := by decide +kernel
theorem dX0_tryPrices_45 : decode cX0_tryPrices 45 = .ok (.goto (-22), 3) := by decide +kernel
theorem dX0_tryPrices_48 : decode cX0_tryPrices 48 = .ok (.return_, 1) := by decide +kernel
theorem dX0_look_0 : decode cX0_look 0 = .ok (.aload_n 0, 1) := by decide +kernel
theorem dX0_look_1 : decode cX0_look 1 = .ok (.aload_n 1, 1) := by decide +kernel
theorem dX0_look_2 : decode cX0_look 2 = .ok (.iload_n 2, 1) := by decide +kernel
theorem dX0_look_3 : decode cX0_look 3 = .ok (.invokevirtual 75, 3) := by decide +kernel
theorem dX0_look_6 : decode cX0_look 6 = .ok (.aload_n 0, 1) := by decide +kernel
theorem dX0_look_7 : decode cX0_look 7 = .ok (.getfield 41, 3) := by decide +kernel
theorem dX0_look_10 : decode cX0_look 10 = .ok (.getfield 78, 3) := by decide +kernel
theorem dX0_look_13 : decode cX0_look 13 = .ok (.iload_n 2, 1) := by decide +kernel
theorem dX0_look_14 : decode cX0_look 14 = .ok (.iaload, 1) := by decide +kernel
theorem dX0_look_15 : decode cX0_look 15 = .ok (.istore_n 3, 1) := by decide +kernel
theorem dX0_look_16 : decode cX0_look 16 = .ok (.aload_n 0, 1) := by decide +kernel
theorem dX0_look_17 : decode cX0_look 17 = .ok (.iconst 0, 1) := by decide +kernel
theorem dX0_look_18 : decode cX0_look 18 = .ok (.putfield 71, 3) := by decide +kernel
theorem dX0_look_21 : decode cX0_look 21 = .ok (.iload_n 3, 1) := by decide +kernel
theorem dX0_look_22 : decode cX0_look 22 = .ok (.iconst 2, 1) := by decide +kernel
theorem dX0_look_23 : decode cX0_look 23 = .ok (.if_icmp .ne 13, 3) := by decide +kernel
theorem dX0_look_26 : decode cX0_look 26 = .ok (.aload_n 0, 1) := by decide +kernel
theorem dX0_look_27 : decode cX0_look 27 = .ok (.aload_n 1, 1) := by decide +kernel
theorem dX0_look_28 : decode cX0_look 28 = .ok (.iload_n 2, 1) := by decide +kernel
theorem dX0_look_29 : decode cX0_look 29 = .ok (.invokevirtual 81, 3) := by decide +kernel
theorem dX0_look_32 : decode cX0_look 32 = .ok (.putfield 85, 3) := by decide +kernel
theorem dX0_look_35 : decode cX0_look 35 = .ok (.return_, 1) := by decide +kernel
theorem dX0_look_36 : decode cX0_look 36 = .ok (.aload_n 0, 1) := by decide +kernel
theorem dX0_look_37 : decode cX0_look 37 = .ok (.iconst 0, 1) := by decide +kernel
theorem dX0_look_38 : decode cX0_look 38 = .ok (.putfield 85, 3) := by decide +kernel
theorem dX0_look_41 : decode cX0_look 41 = .ok (.aload_n 0, 1) := by decide +kernel
theorem dX0_look_42 : decode cX0_look 42 = .ok (.getfield 59, 3) := by decide +kernel
theorem dX0_look_45 : decode cX0_look 45 = .ok (.ifCond .le 37, 3) := by decide +kernel
theorem dX0_look_48 : decode cX0_look 48 = .ok (.aload_n 0, 1) := by decide +kernel
theorem dX0_look_49 : decode cX0_look 49 = .ok (.ldc 88, 2) := by decide +kernel
theorem dX0_look_51 : decode cX0_look 51 = .ok (.putfield 85, 3) := by decide +kernel
theorem dX0_look_54 : decode cX0_look 54 = .ok (.aload_n 0, 1) := by decide +kernel
theorem dX0_look_55 : decode cX0_look 55 = .ok (.aload_n 1, 1) := by decide +kernel
theorem dX0_look_56 : decode cX0_look 56 = .ok (.iload_n 2, 1) := by decide +kernel
theorem dX0_look_57 : decode cX0_look 57 = .ok (.invokevirtual 89, 3) := by decide +kernel
theorem dX0_look_60 : decode cX0_look 60 = .ok (.iload_n 3, 1) := by decide +kernel
theorem dX0_look_61 : decode cX0_look 61 = .ok (.iconst 1, 1) := by decide +kernel
theorem dX0_look_62 : decode cX0_look 62 = .ok (.if_icmp .eq 8, 3) := by decide +kernel
theorem dX0_look_65 : decode cX0_look 65 = .ok (.iload_n 3, 1) := by decide +kernel
theorem dX0_look_66 : decode cX0_look 66 = .ok (.iconst 4, 1) := by decide +kernel
theorem dX0_look_67 : decode cX0_look 67 = .ok (.if_icmp .ne 10, 3) := by decide +kernel
theorem dX0_look_70 : decode cX0_look 70 = .ok (.aload_n 0, 1) := by decide +kernel
theorem dX0_look_71 : decode cX0_look 71 = .ok (.invokevirtual 92, 3) := by decide +kernel
theorem dX0_look_74 : decode cX0_look 74 = .ok (.goto 8, 3) := by decide +kernel
theorem dX0_look_77 : decode cX0_look 77 = .ok (.aload_n 0, 1) := by decide +kernel
theorem dX0_look_78 : decode cX0_look 78 = .ok (.iconst 0, 1) := by decide +kernel
theorem dX0_look_79 : decode cX0_look 79 = .ok (.invokevirtual 95, 3) := by decide +kernel
theorem dX0_look_82 : decode cX0_look 82 = .ok (.iload_n 3, 1) := by decide +kernel
theorem dX0_look_83 : decode cX0_look 83 = .ok (.iconst 4, 1) := by decide +kernel
theorem dX0_look_84 : decode cX0_look 84 = .ok (.if_icmp .ne 46, 3) := by decide +kernel
theorem dX0_look_87 : decode cX0_look 87 = .ok (.aload_n 0, 1) := by decide +kernel
theorem dX0_look_88 : decode cX0_look 88 = .ok (.aload_n 0, 1) := by decide +kernel
theorem dX0_look_89 : decode cX0_look 89 = .ok (.getfield 85, 3) := by decide +kernel
theorem dX0_look_92 : decode cX0_look 92 = .ok (.aload_n 0, 1) := by decide +kernel
theorem dX0_look_93 : decode cX0_look 93 = .ok (.getfield 41, 3) := by decide +kernel
theorem dX0_look_96 : decode cX0_look 96 = .ok (.getfield 99, 3) := by decide +kernel
theorem dX0_look_99 : decode cX0_look 99 = .ok (.iload_n 2, 1) := by decide +kernel
theorem dX0_look_100 : decode cX0_look 100 = .ok (.iaload, 1) := by decide +kernel
theorem dX0_look_101 : decode cX0_look 101 = .ok (.if_icmp .le 7, 3) := by decide +kernel
theorem dX0_look_104 : decode cX0_look 104 = .ok (.iconst 1, 1) := by decide +kernel
theorem dX0_look_105 : decode cX0_look 105 = .ok (.goto 4, 3) := by decide +kernel
theorem dX0_look_108 : decode cX0_look 108 = .ok (.iconst 0, 1) := by decide +kernel
theorem dX0_look_109 : decode cX0_look 109 = .ok (.putfield 71, 3) := by decide +kernel
theorem dX0_look_112 : decode cX0_look 112 = .ok (.aload_n 0, 1) := by decide +kernel
theorem dX0_look_113 : decode cX0_look 113 = .ok (.getfield 71, 3) := by decide +kernel
theorem dX0_look_116 : decode cX0_look 116 = .ok (.ifCond .ne 14, 3) := by decide +kernel
theorem dX0_look_119 : decode cX0_look 119 = .ok (.aload_n 0, 1) := by decide +kernel
theorem dX0_look_120 : decode cX0_look 120 = .ok (.aload_n 1, 1) := by decide +kernel
theorem dX0_look_121 : decode cX0_look 121 = .ok (.iload_n 2, 1) := by decide +kernel
theorem dX0_look_122 : decode cX0_look 122 = .ok (.invokevirtual 75, 3) := by decide +kernel
theorem dX0_look_125 : decode cX0_look 125 = .ok (.aload_n 0, 1) := by decide +kernel
theorem dX0_look_126 : decode cX0_look 126 = .ok (.iconst 0, 1) := by decide +kernel
theorem dX0_look_127 : decode cX0_look 127 = .ok (.putfield 85, 3) := by decide +kernel
theorem dX0_look_130 : decode cX0_look 130 = .ok (.return_, 1) := by decide +kernel
theorem dX0_take_0 : decode cX0_take 0 = .ok (.iconst 0, 1) := by decide +kernel
theorem dX0_take_1 : decode cX0_take 1 = .ok (.istore_n 3, 1) := by decide +kernel
theorem dX0_take_2 : decode cX0_take 2 = .ok (.iconst 0, 1) := by decide +kernel
theorem dX0_take_3 : decode cX0_take 3 = .ok (.istore 4, 2) := by decide +kernel
theorem dX0_take_5 : decode cX0_take 5 = .ok (.iload 4, 2) := by decide +kernel
theorem dX0_take_7 : decode cX0_take 7 = .ok (.aload_n 0, 1) := by decide +kernel
theorem dX0_take_8 : decode cX0_take 8 = .ok (.getfield 59, 3) := by decide +kernel
theorem dX0_take_11 : decode cX0_take 11 = .ok (.if_icmp .ge 53, 3) := by decide +kernel
theorem dX0_take_14 : decode cX0_take 14 = .ok (.aload_n 1, 1) := by decide +kernel
theorem dX0_take_15 : decode cX0_take 15 = .ok (.getfield 62, 3) := by decide +kernel
theorem dX0_take_18 : decode cX0_take 18 = .ok (.aload_n 0, 1) := by decide +kernel
theorem dX0_take_19 : decode cX0_take 19 = .ok (.getfield 9, 3) := by decide +kernel
theorem dX0_take_22 : decode cX0_take 22 = .ok (.iload 4, 2) := by decide +kernel
theorem dX0_take_24 : decode cX0_take 24 = .ok (.iaload, 1) := by decide +kernel
theorem dX0_take_25 : decode cX0_take 25 = .ok (.iaload, 1) := by decide +kernel
theorem dX0_take_26 : decode cX0_take 26 = .ok (.aload_n 0, 1) := by decide +kernel
theorem dX0_take_27 : decode cX0_take 27 = .ok (.getfield 21, 3) := by decide +kernel
theorem dX0_take_30 : decode cX0_take 30 = .ok (.iload 4, 2) := by decide +kernel
theorem dX0_take_32 : decode cX0_take 32 = .ok (.iaload, 1) := by decide +kernel
theorem dX0_take_33 : decode cX0_take 33 = .ok (.if_icmp .eq 25, 3) := by decide +kernel
theorem dX0_take_36 : decode cX0_take 36 = .ok (.aload_n 1, 1) := by decide +kernel
theorem dX0_take_37 : decode cX0_take 37 = .ok (.getfield 62, 3) := by decide +kernel
theorem dX0_take_40 : decode cX0_take 40 = .ok (.aload_n 0, 1) := by decide +kernel
theorem dX0_take_41 : decode cX0_take 41 = .ok (.getfield 9, 3) := by decide +kernel
theorem dX0_take_44 : decode cX0_take 44 = .ok (.iload 4, 2) := by decide +kernel
theorem dX0_take_46 : decode cX0_take 46 = .ok (.iaload, 1) := by decide +kernel
theorem dX0_take_47 : decode cX0_take 47 = .ok (.aload_n 0, 1) := by decide +kernel
theorem dX0_take_48 : decode cX0_take 48 = .ok (.getfield 21, 3) := by decide +kernel
theorem dX0_take_51 : decode cX0_take 51 = .ok (.iload 4, 2) := by decide +kernel
theorem dX0_take_53 : decode cX0_take 53 = .ok (.iaload, 1) := by decide +kernel
theorem dX0_take_54 : decode cX0_take 54 = .ok (.iastore, 1) := by decide +kernel
theorem dX0_take_55 : decode cX0_take 55 = .ok (.iinc 3 1, 3) := by decide +kernel
theorem dX0_take_58 : decode cX0_take 58 = .ok (.iinc 4 1, 3) := by decide +kernel
theorem dX0_take_61 : decode cX0_take 61 = .ok (.goto (-56), 3) := by decide +kernel
theorem dX0_take_64 : decode cX0_take 64 = .ok (.aload_n 1, 1) := by decide +kernel
theorem dX0_take_65 : decode cX0_take 65 = .ok (.getfield 67, 3) := by decide +kernel
theorem dX0_take_68 : decode cX0_take 68 = .ok (.iload_n 2, 1) := by decide +kernel
theorem dX0_take_69 : decode cX0_take 69 = .ok (.baload, 1) := by decide +kernel
theorem dX0_take_70 : decode cX0_take 70 = .ok (.aload_n 0, 1) := by decide +kernel
theorem dX0_take_71 : decode cX0_take 71 = .ok (.getfield 71, 3) := by decide +kernel
theorem dX0_take_74 : decode cX0_take 74 = .ok (.if_icmp .eq 16, 3) := by decide +kernel
theorem dX0_take_77 : decode cX0_take 77 = .ok (.aload_n 1, 1) := by decide +kernel
theorem dX0_take_78 : decode cX0_take 78 = .ok (.getfield 67, 3) := by decide +kernel
theorem dX0_take_81 : decode cX0_take 81 = .ok (.iload_n 2, 1) := by decide +kernel
theorem dX0_take_82 : decode cX0_take 82 = .ok (.aload_n 0, 1) := by decide +kernel
theorem dX0_take_83 : decode cX0_take 83 = .ok (.getfield 71, 3) := by decide +kernel
theorem dX0_take_86 : decode cX0_take 86 = .ok (.bastore, 1) := by decide +kernel
theorem dX0_take_87 : decode cX0_take 87 = .ok (.iinc 3 1, 3) := by decide +kernel
theorem dX0_take_90 : decode cX0_take 90 = .ok (.iload_n 3, 1) := by decide +kernel
theorem dX0_take_91 : decode cX0_take 91 = .ok (.ireturn, 1) := by decide +kernel
theorem dX0_settle_0 : decode cX0_settle 0 = .ok (.iconst 0, 1) := by decide +kernel
theorem dX0_settle_1 : decode cX0_settle 1 = .ok (.istore_n 2, 1) := by decide +kernel
theorem dX0_settle_2 : decode cX0_settle 2 = .ok (.iload_n 2, 1) := by decide +kernel
theorem dX0_settle_3 : decode cX0_settle 3 = .ok (.bipush 20, 2) := by decide +kernel
theorem dX0_settle_5 : decode cX0_settle 5 = .ok (.if_icmp .ge 55, 3) := by decide +kernel
theorem dX0_settle_8 : decode cX0_settle 8 = .ok (.iconst 0, 1) := by decide +kernel
theorem dX0_settle_9 : decode cX0_settle 9 = .ok (.istore_n 3, 1) := by decide +kernel
theorem dX0_settle_10 : decode cX0_settle 10 = .ok (.iconst 0, 1) := by decide +kernel
theorem dX0_settle_11 : decode cX0_settle 11 = .ok (.istore 4, 2) := by decide +kernel
theorem dX0_settle_13 : decode cX0_settle 13 = .ok (.iload 4, 2) := by decide +kernel
theorem dX0_settle_15 : decode cX0_settle 15 = .ok (.aload_n 0, 1) := by decide +kernel
theorem dX0_settle_16 : decode cX0_settle 16 = .ok (.getfield 41, 3) := by decide +kernel
theorem dX0_settle_19 : decode cX0_settle 19 = .ok (.getfield 45, 3) := by decide +kernel
theorem dX0_settle_22 : decode cX0_settle 22 = .ok (.if_icmp .ge 26, 3) := by decide +kernel
theorem dX0_settle_25 : decode cX0_settle 25 = .ok (.aload_n 0, 1) := by decide +kernel
theorem dX0_settle_26 : decode cX0_settle 26 = .ok (.aload_n 1, 1) := by decide +kernel
theorem dX0_settle_27 : decode cX0_settle 27 = .ok (.iload 4, 2) := by decide +kernel
theorem dX0_settle_29 : decode cX0_settle 29 = .ok (.invokevirtual 51, 3) := by decide +kernel
theorem dX0_settle_32 : decode cX0_settle 32 = .ok (.iload_n 3, 1) := by decide +kernel
theorem dX0_settle_33 : decode cX0_settle 33 = .ok (.aload_n 0, 1) := by decide +kernel
theorem dX0_settle_34 : decode cX0_settle 34 = .ok (.aload_n 1, 1) := by decide +kernel
theorem dX0_settle_35 : decode cX0_settle 35 = .ok (.iload 4, 2) := by decide +kernel
theorem dX0_settle_37 : decode cX0_settle 37 = .ok (.invokevirtual 55, 3) := by decide +kernel
theorem dX0_settle_40 : decode cX0_settle 40 = .ok (.iadd, 1) := by decide +kernel
theorem dX0_settle_41 : decode cX0_settle 41 = .ok (.istore_n 3, 1) := by decide +kernel
theorem dX0_settle_42 : decode cX0_settle 42 = .ok (.iinc 4 1, 3) := by decide +kernel
theorem dX0_settle_45 : decode cX0_settle 45 = .ok (.goto (-32), 3) := by decide +kernel
theorem dX0_settle_48 : decode cX0_settle 48 = .ok (.iload_n 3, 1) := by decide +kernel
theorem dX0_settle_49 : decode cX0_settle 49 = .ok (.ifCond .ne 5, 3) := by decide +kernel
theorem dX0_settle_52 : decode cX0_settle 52 = .ok (.iload_n 2, 1) := by decide +kernel
theorem dX0_settle_53 : decode cX0_settle 53 = .ok (.ireturn, 1) := by decide +kernel
theorem dX0_settle_54 : decode cX0_settle 54 = .ok (.iinc 2 1, 3) := by decide +kernel
theorem dX0_settle_57 : decode cX0_settle 57 = .ok (.goto (-55), 3) := by decide +kernel
theorem dX0_settle_60 : decode cX0_settle 60 = .ok (.iconst (-1), 1) := by decide +kernel
theorem dX0_settle_61 : decode cX0_settle 61 = .ok (.ireturn, 1) := by decide +kernel
theorem dX0_priceOf_0 : decode cX0_priceOf 0 = .ok (.iconst 0, 1) := by decide +kernel
theorem dX0_priceOf_1 : decode cX0_priceOf 1 = .ok (.istore_n 2, 1) := by decide +kernel
theorem dX0_priceOf_2 : decode cX0_priceOf 2 = .ok (.iload_n 2, 1) := by decide +kernel
theorem dX0_priceOf_3 : decode cX0_priceOf 3 = .ok (.aload_n 0, 1) := by decide +kernel
theorem dX0_priceOf_4 : decode cX0_priceOf 4 = .ok (.getfield 59, 3) := by decide +kernel
theorem dX0_priceOf_7 : decode cX0_priceOf 7 = .ok (.if_icmp .ge 26, 3) := by decide +kernel
theorem dX0_priceOf_10 : decode cX0_priceOf 10 = .ok (.aload_n 0, 1) := by decide +kernel
theorem dX0_priceOf_11 : decode cX0_priceOf 11 = .ok (.getfield 9, 3) := by decide +kernel
theorem dX0_priceOf_14 : decode cX0_priceOf 14 = .ok (.iload_n 2, 1) := by decide +kernel
theorem dX0_priceOf_15 : decode cX0_priceOf 15 = .ok (.iaload, 1) := by decide +kernel
theorem dX0_priceOf_16 : decode cX0_priceOf 16 = .ok (.iload_n 1, 1) := by decide +kernel
theorem dX0_priceOf_17 : decode cX0_priceOf 17 = .ok (.if_icmp .ne 10, 3) := by decide +kernel
theorem dX0_priceOf_20 : decode cX0_priceOf 20 = .ok (.aload_n 0, 1) := by decide +kernel
theorem dX0_priceOf_21 : decode cX0_priceOf 21 = .ok (.getfield 21, 3) := by decide +kernel
theorem dX0_priceOf_24 : decode cX0_priceOf 24 = .ok (.iload_n 2, 1) := by decide +kernel
theorem dX0_priceOf_25 : decode cX0_priceOf 25 = .ok (.iaload, 1) := by decide +kernel
theorem dX0_priceOf_26 : decode cX0_priceOf 26 = .ok (.ireturn, 1) := by decide +kernel
theorem dX0_priceOf_27 : decode cX0_priceOf 27 = .ok (.iinc 2 1, 3) := by decide +kernel
theorem dX0_priceOf_30 : decode cX0_priceOf 30 = .ok (.goto (-28), 3) := by decide +kernel
theorem dX0_priceOf_33 : decode cX0_priceOf 33 = .ok (.iconst (-1), 1) := by decide +kernel
theorem dX0_priceOf_34 : decode cX0_priceOf 34 = .ok (.ireturn, 1) := by decide +kernel
theorem dX6_at_0 : decode cX6_at 0 = .ok (.iload_n 1, 1) := by decide +kernel
theorem dX6_at_1 : decode cX6_at 1 = .ok (.ifCond .lt 20, 3) := by decide +kernel
theorem dX6_at_4 : decode cX6_at 4 = .ok (.iload_n 1, 1) := by decide +kernel
theorem dX6_at_5 : decode cX6_at 5 = .ok (.aload_n 0, 1) := by decide +kernel
theorem dX6_at_6 : decode cX6_at 6 = .ok (.getfield 15, 3) := by decide +kernel
theorem dX6_at_9 : decode cX6_at 9 = .ok (.if_icmp .ge 12, 3) := by decide +kernel
theorem dX6_at_12 : decode cX6_at 12 = .ok (.aload_n 0, 1) := by decide +kernel
theorem dX6_at_13 : decode cX6_at 13 = .ok (.getfield 9, 3) := by decide +kernel
theorem dX6_at_16 : decode cX6_at 16 = .ok (.iload_n 1, 1) := by decide +kernel
theorem dX6_at_17 : decode cX6_at 17 = .ok (.caload, 1) := by decide +kernel
theorem dX6_at_18 : decode cX6_at 18 = .ok (.goto 4, 3) := by decide +kernel
theorem dX6_at_21 : decode cX6_at 21 = .ok (.iconst 0, 1) := by decide +kernel
theorem dX6_at_22 : decode cX6_at 22 = .ok (.ireturn, 1) := by decide +kernel
theorem dX1_takesFactor_0 : decode cX1_takesFactor 0 = .ok (.iload_n 1, 1) := by decide +kernel
theorem dX1_takesFactor_1 : decode cX1_takesFactor 1 = .ok (.bipush 40, 2) := by decide +kernel
theorem dX1_takesFactor_3 : decode cX1_takesFactor 3 = .ok (.if_icmp .ne 15, 3) := by decide +kernel
theorem dX1_takesFactor_6 : decode cX1_takesFactor 6 = .ok (.aload_n 0, 1) := by decide +kernel
theorem dX1_takesFactor_7 : decode cX1_takesFactor 7 = .ok (.dup, 1) := by decide +kernel
theorem dX1_takesFactor_8 : decode cX1_takesFactor 8 = .ok (.getfield 13, 3) := by decide +kernel
theorem dX1_takesFactor_11 : decode cX1_takesFactor 11 = .ok (.iconst 1, 1) := by decide +kernel
theorem dX1_takesFactor_12 : decode cX1_takesFactor 12 = .ok (.iadd, 1) := by decide +kernel
theorem dX1_takesFactor_13 : decode cX1_takesFactor 13 = .ok (.putfield 13, 3) := by decide +kernel
theorem dX1_takesFactor_16 : decode cX1_takesFactor 16 = .ok (.iconst 1, 1) := by decide +kernel
theorem dX1_takesFactor_17 : decode cX1_takesFactor 17 = .ok (.ireturn, 1) := by decide +kernel
theorem dX1_takesFactor_18 : decode cX1_takesFactor 18 = .ok (.iload_n 1, 1) := by decide +kernel
theorem dX1_takesFactor_19 : decode cX1_takesFactor 19 = .ok (.bipush 33, 2) := by decide +kernel
theorem dX1_takesFactor_21 : decode cX1_takesFactor 21 = .ok (.if_icmp .ne 5, 3) := by decide +kernel
theorem dX1_takesFactor_24 : decode cX1_takesFactor 24 = .ok (.iconst 1, 1) := by decide +kernel
theorem dX1_takesFactor_25 : decode cX1_takesFactor 25 = .ok (.ireturn, 1) := by decide +kernel
theorem dX1_takesFactor_26 : decode cX1_takesFactor 26 = .ok (.aload_n 0, 1) := by decide +kernel
theorem dX1_takesFactor_27 : decode cX1_takesFactor 27 = .ok (.iconst 1, 1) := by decide +kernel
theorem dX1_takesFactor_28 : decode cX1_takesFactor 28 = .ok (.putfield 9, 3) := by decide +kernel
theorem dX1_takesFactor_31 : decode cX1_takesFactor 31 = .ok (.iload_n 1, 1) := by decide +kernel
theorem dX1_takesFactor_32 : decode cX1_takesFactor 32 = .ok (.bipush 115, 2) := by decide +kernel
theorem dX1_takesFactor_34 : decode cX1_takesFactor 34 = .ok (.if_icmp .eq 21, 3) := by decide +kernel
theorem dX1_takesFactor_37 : decode cX1_takesFactor 37 = .ok (.iload_n 1, 1) := by decide +kernel
theorem dX1_takesFactor_38 : decode cX1_takesFactor 38 = .ok (.bipush 111, 2) := by decide +kernel
theorem dX1_takesFactor_40 : decode cX1_takesFactor 40 = .ok (.if_icmp .eq 15, 3) := by decide +kernel
theorem dX1_takesFactor_43 : decode cX1_takesFactor 43 = .ok (.iload_n 1, 1) := by decide +kernel
theorem dX1_takesFactor_44 : decode cX1_takesFactor 44 = .ok (.bipush 114, 2) := by decide +kernel
theorem dX1_takesFactor_46 : decode cX1_takesFactor 46 = .ok (.if_icmp .eq 9, 3) := by decide +kernel
theorem dX1_takesFactor_49 : decode cX1_takesFactor 49 = .ok (.iload_n 1, 1) := by decide +kernel
theorem dX1_takesFactor_50 : decode cX1_takesFactor 50 = .ok (.bipush 100, 2) := by decide +kernel
theorem dX1_takesFactor_52 : decode cX1_takesFactor 52 = .ok (.if_icmp .ne 7, 3) := by decide +kernel
theorem dX1_takesFactor_55 : decode cX1_takesFactor 55 = .ok (.iconst 1, 1) := by decide +kernel
theorem dX1_takesFactor_56 : decode cX1_takesFactor 56 = .ok (.goto 4, 3) := by decide +kernel
theorem dX1_takesFactor_59 : decode cX1_takesFactor 59 = .ok (.iconst 0, 1) := by decide +kernel
theorem dX1_takesFactor_60 : decode cX1_takesFactor 60 = .ok (.ireturn, 1) := by decide +kernel
theorem dX6_isDigit_0 : decode cX6_isDigit 0 = .ok (.iload_n 0, 1) := by decide +kernel
theorem dX6_isDigit_1 : decode cX6_isDigit 1 = .ok (.bipush 48, 2) := by decide +kernel
theorem dX6_isDigit_3 : decode cX6_isDigit 3 = .ok (.if_icmp .lt 13, 3) := by decide +kernel
theorem dX6_isDigit_6 : decode cX6_isDigit 6 = .ok (.iload_n 0, 1) := by decide +kernel
theorem dX6_isDigit_7 : decode cX6_isDigit 7 = .ok (.bipush 57, 2) := by decide +kernel
theorem dX6_isDigit_9 : decode cX6_isDigit 9 = .ok (.if_icmp .gt 7, 3) := by decide +kernel
theorem dX6_isDigit_12 : decode cX6_isDigit 12 = .ok (.iconst 1, 1) := by decide +kernel
theorem dX6_isDigit_13 : decode cX6_isDigit 13 = .ok (.goto 4, 3) := by decide +kernel
theorem dX6_isDigit_16 : decode cX6_isDigit 16 = .ok (.iconst 0, 1) := by decide +kernel
theorem dX6_isDigit_17 : decode cX6_isDigit 17 = .ok (.ireturn, 1) := by decide +kernel
theorem dX1_takesDigit_0 : decode cX1_takesDigit 0 = .ok (.iload_n 1, 1) := by decide +kernel
theorem dX1_takesDigit_1 : decode cX1_takesDigit 1 = .ok (.invokestatic 45, 3) := by decide +kernel
theorem dX1_takesDigit_4 : decode cX1_takesDigit 4 = .ok (.ifCond .eq 11, 3) := by decide +kernel
theorem dX1_takesDigit_7 : decode cX1_takesDigit 7 = .ok (.aload_n 0, 1) := by decide +kernel
theorem dX1_takesDigit_8 : decode cX1_takesDigit 8 = .ok (.getfield 36, 3) := by decide +kernel
theorem dX1_takesDigit_11 : decode cX1_takesDigit 11 = .ok (.iconst 4, 1) := by decide +kernel
theorem dX1_takesDigit_12 : decode cX1_takesDigit 12 = .ok (.if_icmp .lt 5, 3) := by decide +kernel
theorem dX1_takesDigit_15 : decode cX1_takesDigit 15 = .ok (.iconst 0, 1) := by decide +kernel
theorem dX1_takesDigit_16 : decode cX1_takesDigit 16 = .ok (.ireturn, 1) := by decide +kernel
theorem dX1_takesDigit_17 : decode cX1_takesDigit 17 = .ok (.aload_n 0, 1) := by decide +kernel
theorem dX1_takesDigit_18 : decode cX1_takesDigit 18 = .ok (.iconst 3, 1) := by decide +kernel
theorem dX1_takesDigit_19 : decode cX1_takesDigit 19 = .ok (.putfield 9, 3) := by decide +kernel
theorem dX1_takesDigit_22 : decode cX1_takesDigit 22 = .ok (.aload_n 0, 1) := by decide +kernel
theorem dX1_takesDigit_23 : decode cX1_takesDigit 23 = .ok (.dup, 1) := by decide +kernel
theorem dX1_takesDigit_24 : decode cX1_takesDigit 24 = .ok (.getfield 36, 3) := by decide +kernel
theorem dX1_takesDigit_27 : decode cX1_takesDigit 27 = .ok (.iconst 1, 1) := by decide +kernel
theorem dX1_takesDigit_28 : decode cX1_takesDigit 28 = .ok (.iadd, 1) := by decide +kernel
theorem dX1_takesDigit_29 : decode cX1_takesDigit 29 = .ok (.putfield 36, 3) := by decide +kernel
theorem dX1_takesDigit_32 : decode cX1_takesDigit 32 = .ok (.iconst 1, 1) := by decide +kernel
theorem dX1_takesDigit_33 : decode cX1_takesDigit 33 = .ok (.ireturn, 1) := by decide +kernel
theorem dX1_takesBehind_0 : decode cX1_takesBehind 0 = .ok (.iload_n 1, 1) := by decide +kernel
theorem dX1_takesBehind_1 : decode cX1_takesBehind 1 = .ok (.bipush 41, 2) := by decide +kernel
theorem dX1_takesBehind_3 : decode cX1_takesBehind 3 = .ok (.if_icmp .ne 27, 3) := by decide +kernel
theorem dX1_takesBehind_6 : decode cX1_takesBehind 6 = .ok (.aload_n 0, 1) := by decide +kernel
theorem dX1_takesBehind_7 : decode cX1_takesBehind 7 = .ok (.getfield 13, 3) := by decide +kernel
theorem dX1_takesBehind_10 : decode cX1_takesBehind 10 = .ok (.ifCond .le 20, 3) := by decide +kernel
theorem dX1_takesBehind_13 : decode cX1_takesBehind 13 = .ok (.aload_n 0, 1) := by decide +kernel
theorem dX1_takesBehind_14 : decode cX1_takesBehind 14 = .ok (.dup, 1) := by decide +kernel
theorem dX1_takesBehind_15 : decode cX1_takesBehind 15 = .ok (.getfield 13, 3) := by decide +kernel
theorem dX1_takesBehind_18 : decode cX1_takesBehind 18 = .ok (.iconst 1, 1) := by decide +kernel
theorem dX1_takesBehind_19 : decode cX1_takesBehind 19 = .ok (.isub, 1) := by decide +kernel
theorem dX1_takesBehind_20 : decode cX1_takesBehind 20 = .ok (.putfield 13, 3) := by decide +kernel
theorem dX1_takesBehind_23 : decode cX1_takesBehind 23 = .ok (.aload_n 0, 1) := by decide +kernel
theorem dX1_takesBehind_24 : decode cX1_takesBehind 24 = .ok (.iconst 4, 1) := by decide +kernel
theorem dX1_takesBehind_25 : decode cX1_takesBehind 25 = .ok (.putfield 9, 3) := by decide +kernel
theorem dX1_takesBehind_28 : decode cX1_takesBehind 28 = .ok (.iconst 1, 1) := by decide +kernel
theorem dX1_takesBehind_29 : decode cX1_takesBehind 29 = .ok (.ireturn, 1) := by decide +kernel
theorem dX1_takesBehind_30 : decode cX1_takesBehind 30 = .ok (.aload_n 0, 1) := by decide +kernel
theorem dX1_takesBehind_31 : decode cX1_takesBehind 31 = .ok (.iconst 0, 1) := by decide +kernel
theorem dX1_takesBehind_32 : decode cX1_takesBehind 32 = .ok (.putfield 9, 3) := by decide +kernel
theorem dX1_takesBehind_35 : decode cX1_takesBehind 35 = .ok (.iload_n 1, 1) := by decide +kernel
theorem dX1_takesBehind_36 : decode cX1_takesBehind 36 = .ok (.bipush 124, 2) := by decide +kernel
theorem dX1_takesBehind_38 : decode cX1_takesBehind 38 = .ok (.if_icmp .eq 9, 3) := by decide +kernel
theorem dX1_takesBehind_41 : decode cX1_takesBehind 41 = .ok (.iload_n 1, 1) := by decide +kernel
theorem dX1_takesBehind_42 : decode cX1_takesBehind 42 = .ok (.bipush 38, 2) := by decide +kernel
theorem dX1_takesBehind_44 : decode cX1_takesBehind 44 = .ok (.if_icmp .ne 7, 3) := by decide +kernel
theorem dX1_takesBehind_47 : decode cX1_takesBehind 47 = .ok (.iconst 1, 1) := by decide +kernel
theorem dX1_takesBehind_48 : decode cX1_takesBehind 48 = .ok (.goto 4, 3) := by decide +kernel
theorem dX1_takesBehind_51 : decode cX1_takesBehind 51 = .ok (.iconst 0, 1) := by decide +kernel
theorem dX1_takesBehind_52 : decode cX1_takesBehind 52 = .ok (.ireturn, 1) := by decide +kernel
theorem dX1_takes_0 : decode cX1_takes 0 = .ok (.aload_n 0, 1) := by decide +kernel
theorem dX1_takes_1 : decode cX1_takes 1 = .ok (.getfield 9, 3) := by decide +kernel
theorem dX1_takes_4 : decode cX1_takes 4 = .ok (.tableswitch 100 0 3 #[32, 38, 72, 78], 32) := by decide +kernel
theorem dX1_takes_36 : decode cX1_takes 36 = .ok (.aload_n 0, 1) := by decide +kernel
theorem dX1_takes_37 : decode cX1_takes 37 = .ok (.iload_n 1, 1) := by decide +kernel
theorem dX1_takes_38 : decode cX1_takes 38 = .ok (.invokevirtual 33, 3) := by decide +kernel
theorem dX1_takes_41 : decode cX1_takes 41 = .ok (.ireturn, 1) := by decide +kernel
theorem dX1_takes_42 : decode cX1_takes 42 = .ok (.aload_n 0, 1) := by decide +kernel
theorem dX1_takes_43 : decode cX1_takes 43 = .ok (.iconst 2, 1) := by decide +kernel
theorem dX1_takes_44 : decode cX1_takes 44 = .ok (.putfield 9, 3) := by decide +kernel
theorem dX1_takes_47 : decode cX1_takes 47 = .ok (.aload_n 0, 1) := by decide +kernel
theorem dX1_takes_48 : decode cX1_takes 48 = .ok (.iconst 0, 1) := by decide +kernel
theorem dX1_takes_49 : decode cX1_takes 49 = .ok (.putfield 36, 3) := by decide +kernel
theorem dX1_takes_52 : decode cX1_takes 52 = .ok (.iload_n 1, 1) := by decide +kernel
theorem dX1_takes_53 : decode cX1_takes 53 = .ok (.bipush 60, 2) := by decide +kernel
theorem dX1_takes_55 : decode cX1_takes 55 = .ok (.if_icmp .eq 15, 3) := by decide +kernel
theorem dX1_takes_58 : decode cX1_takes 58 = .ok (.iload_n 1, 1) := by decide +kernel
theorem dX1_takes_59 : decode cX1_takes 59 = .ok (.bipush 61, 2) := by decide +kernel
theorem dX1_takes_61 : decode cX1_takes 61 = .ok (.if_icmp .eq 9, 3) := by decide +kernel
theorem dX1_takes_64 : decode cX1_takes 64 = .ok (.iload_n 1, 1) := by decide +kernel
theorem dX1_takes_65 : decode cX1_takes 65 = .ok (.bipush 62, 2) := by decide +kernel
theorem dX1_takes_67 : decode cX1_takes 67 = .ok (.if_icmp .ne 7, 3) := by decide +kernel
theorem dX1_takes_70 : decode cX1_takes 70 = .ok (.iconst 1, 1) := by decide +kernel
theorem dX1_takes_71 : decode cX1_takes 71 = .ok (.goto 4, 3) := by decide +kernel
theorem dX1_takes_74 : decode cX1_takes 74 = .ok (.iconst 0, 1) := by decide +kernel
theorem dX1_takes_75 : decode cX1_takes 75 = .ok (.ireturn, 1) := by decide +kernel
theorem dX1_takes_76 : decode cX1_takes 76 = .ok (.aload_n 0, 1) := by decide +kernel
theorem dX1_takes_77 : decode cX1_takes 77 = .ok (.iload_n 1, 1) := by decide +kernel
theorem dX1_takes_78 : decode cX1_takes 78 = .ok (.invokevirtual 39, 3) := by decide +kernel
theorem dX1_takes_81 : decode cX1_takes 81 = .ok (.ireturn, 1) := by decide +kernel
theorem dX1_takes_82 : decode cX1_takes 82 = .ok (.aload_n 0, 1) := by decide +kernel
theorem dX1_takes_83 : decode cX1_takes 83 = .ok (.iload_n 1, 1) := by decide +kernel
theorem dX1_takes_84 : decode cX1_takes 84 = .ok (.invokevirtual 39, 3) := by decide +kernel
theorem dX1_takes_87 : decode cX1_takes 87 = .ok (.ifCond .ne 11, 3) := by decide +kernel
theorem dX1_takes_90 : decode cX1_takes 90 = .ok (.aload_n 0, 1) := by decide +kernel
theorem dX1_takes_91 : decode cX1_takes 91 = .ok (.iload_n 1, 1) := by decide +kernel
theorem dX1_takes_92 : decode cX1_takes 92 = .ok (.invokevirtual 42, 3) := by decide +kernel
theorem dX1_takes_95 : decode cX1_takes 95 = .ok (.ifCond .eq 7, 3) := by decide +kernel
theorem dX1_takes_98 : decode cX1_takes 98 = .ok (.iconst 1, 1) := by decide +kernel
theorem dX1_takes_99 : decode cX1_takes 99 = .ok (.goto 4, 3) := by decide +kernel
theorem dX1_takes_102 : decode cX1_takes 102 = .ok (.iconst 0, 1) := by decide +kernel
theorem dX1_takes_103 : decode cX1_takes 103 = .ok (.ireturn, 1) := by decide +kernel
theorem dX1_takes_104 : decode cX1_takes 104 = .ok (.aload_n 0, 1) := by decide +kernel
theorem dX1_takes_105 : decode cX1_takes 105 = .ok (.iload_n 1, 1) := by decide +kernel
theorem dX1_takes_106 : decode cX1_takes 106 = .ok (.invokevirtual 42, 3) := by decide +kernel
theorem dX1_takes_109 : decode cX1_takes 109 = .ok (.ireturn, 1) := by decide +kernel
theorem dX1_firstFault_0 : decode cX1_firstFault 0 = .ok (.aload_n 0, 1) := by decide +kernel
theorem dX1_firstFault_1 : decode cX1_firstFault 1 = .ok (.iconst 0, 1) := by decide +kernel
theorem dX1_firstFault_2 : decode cX1_firstFault 2 = .ok (.putfield 9, 3) := by decide +kernel
theorem dX1_firstFault_5 : decode cX1_firstFault 5 = .ok (.aload_n 0, 1) := by decide +kernel
theorem dX1_firstFault_6 : decode cX1_firstFault 6 = .ok (.iconst 0, 1) := by decide +kernel
theorem dX1_firstFault_7 : decode cX1_firstFault 7 = .ok (.putfield 13, 3) := by decide +kernel
theorem dX1_firstFault_10 : decode cX1_firstFault 10 = .ok (.iconst 0, 1) := by decide +kernel
theorem dX1_firstFault_11 : decode cX1_firstFault 11 = .ok (.istore_n 2, 1) := by decide +kernel
theorem dX1_firstFault_12 : decode cX1_firstFault 12 = .ok (.iload_n 2, 1) := by decide +kernel
theorem dX1_firstFault_13 : decode cX1_firstFault 13 = .ok (.aload_n 1, 1) := by decide +kernel
theorem dX1_firstFault_14 : decode cX1_firstFault 14 = .ok (.getfield 16, 3) := by decide +kernel
theorem dX1_firstFault_17 : decode cX1_firstFault 17 = .ok (.if_icmp .ge 23, 3) := by decide +kernel
theorem dX1_firstFault_20 : decode cX1_firstFault 20 = .ok (.aload_n 0, 1) := by decide +kernel
theorem dX1_firstFault_21 : decode cX1_firstFault 21 = .ok (.aload_n 1, 1) := by decide +kernel
theorem dX1_firstFault_22 : decode cX1_firstFault 22 = .ok (.iload_n 2, 1) := by decide +kernel
theorem dX1_firstFault_23 : decode cX1_firstFault 23 = .ok (.invokevirtual 21, 3) := by decide +kernel
theorem dX1_firstFault_26 : decode cX1_firstFault 26 = .ok (.invokevirtual 25, 3) := by decide +kernel
theorem dX1_firstFault_29 : decode cX1_firstFault 29 = .ok (.ifCond .ne 5, 3) := by decide +kernel
theorem dX1_firstFault_32 : decode cX1_firstFault 32 = .ok (.iload_n 2, 1) := by decide +kernel
theorem dX1_firstFault_33 : decode cX1_firstFault 33 = .ok (.ireturn, 1) := by decide +kernel
theorem dX1_firstFault_34 : decode cX1_firstFault 34 = .ok (.iinc 2 1, 3) := by decide +kernel
theorem dX1_firstFault_37 : decode cX1_firstFault 37 = .ok (.goto (-25), 3) := by decide +kernel
theorem dX1_firstFault_40 : decode cX1_firstFault 40 = .ok (.aload_n 1, 1) := by decide +kernel
theorem dX1_firstFault_41 : decode cX1_firstFault 41 = .ok (.getfield 16, 3) := by decide +kernel
theorem dX1_firstFault_44 : decode cX1_firstFault 44 = .ok (.ireturn, 1) := by decide +kernel
theorem dX1_isTest_0 : decode cX1_isTest 0 = .ok (.aload_n 0, 1) := by decide +kernel
theorem dX1_isTest_1 : decode cX1_isTest 1 = .ok (.aload_n 1, 1) := by decide +kernel
theorem dX1_isTest_2 : decode cX1_isTest 2 = .ok (.invokevirtual 29, 3) := by decide +kernel
theorem dX1_isTest_5 : decode cX1_isTest 5 = .ok (.aload_n 1, 1) := by decide +kernel
theorem dX1_isTest_6 : decode cX1_isTest 6 = .ok (.getfield 16, 3) := by decide +kernel
theorem dX1_isTest_9 : decode cX1_isTest 9 = .ok (.if_icmp .ne 30, 3) := by decide +kernel
theorem dX1_isTest_12 : decode cX1_isTest 12 = .ok (.aload_n 0, 1) := by decide +kernel
theorem dX1_isTest_13 : decode cX1_isTest 13 = .ok (.getfield 9, 3) := by decide +kernel
theorem dX1_isTest_16 : decode cX1_isTest 16 = .ok (.iconst 3, 1) := by decide +kernel
theorem dX1_isTest_17 : decode cX1_isTest 17 = .ok (.if_icmp .eq 11, 3) := by decide +kernel
theorem dX1_isTest_20 : decode cX1_isTest 20 = .ok (.aload_n 0, 1) := by decide +kernel
theorem dX1_isTest_21 : decode cX1_isTest 21 = .ok (.getfield 9, 3) := by decide +kernel
theorem dX1_isTest_24 : decode cX1_isTest 24 = .ok (.iconst 4, 1) := by decide +kernel
theorem dX1_isTest_25 : decode cX1_isTest 25 = .ok (.if_icmp .ne 14, 3) := by decide +kernel
theorem dX1_isTest_28 : decode cX1_isTest 28 = .ok (.aload_n 0, 1) := by decide +kernel
theorem dX1_isTest_29 : decode cX1_isTest 29 = .ok (.getfield 13, 3) := by decide +kernel
theorem dX1_isTest_32 : decode cX1_isTest 32 = .ok (.ifCond .ne 7, 3) := by decide +kernel
theorem dX1_isTest_35 : decode cX1_isTest 35 = .ok (.iconst 1, 1) := by decide +kernel
theorem dX1_isTest_36 : decode cX1_isTest 36 = .ok (.goto 4, 3) := by decide +kernel
theorem dX1_isTest_39 : decode cX1_isTest 39 = .ok (.iconst 0, 1) := by decide +kernel
theorem dX1_isTest_40 : decode cX1_isTest 40 = .ok (.ireturn, 1) := by decide +kernel
theorem dX4_become_0 : decode cX4_become 0 = .ok (.iconst 0, 1) := by decide +kernel
theorem dX4_become_1 : decode cX4_become 1 = .ok (.istore_n 2, 1) := by decide +kernel
theorem dX4_become_2 : decode cX4_become 2 = .ok (.iload_n 2, 1) := by decide +kernel
theorem dX4_become_3 : decode cX4_become 3 = .ok (.bipush 6, 2) := by decide +kernel
theorem dX4_become_5 : decode cX4_become 5 = .ok (.if_icmp .ge 33, 3) := by decide +kernel
theorem dX4_become_8 : decode cX4_become 8 = .ok (.aload_n 0, 1) := by decide +kernel
theorem dX4_become_9 : decode cX4_become 9 = .ok (.getfield 9, 3) := by decide +kernel
theorem dX4_become_12 : decode cX4_become 12 = .ok (.iload_n 2, 1) := by decide +kernel
theorem dX4_become_13 : decode cX4_become 13 = .ok (.aload_n 1, 1) := by decide +kernel
theorem dX4_become_14 : decode cX4_become 14 = .ok (.getfield 9, 3) := by decide +kernel
theorem dX4_become_17 : decode cX4_become 17 = .ok (.iload_n 2, 1) := by decide +kernel
theorem dX4_become_18 : decode cX4_become 18 = .ok (.iaload, 1) := by decide +kernel
theorem dX4_become_19 : decode cX4_become 19 = .ok (.iastore, 1) := by decide +kernel
theorem dX4_become_20 : decode cX4_become 20 = .ok (.aload_n 0, 1) := by decide +kernel
theorem dX4_become_21 : decode cX4_become 21 = .ok (.getfield 15, 3) := by decide +kernel
theorem dX4_become_24 : decode cX4_become 24 = .ok (.iload_n 2, 1) := by decide +kernel
theorem dX4_become_25 : decode cX4_become 25 = .ok (.aload_n 1, 1) := by decide +kernel
theorem dX4_become_26 : decode cX4_become 26 = .ok (.getfield 15, 3) := by decide +kernel
theorem dX4_become_29 : decode cX4_become 29 = .ok (.iload_n 2, 1) := by decide +kernel
theorem dX4_become_30 : decode cX4_become 30 = .ok (.iaload, 1) := by decide +kernel
theorem dX4_become_31 : decode cX4_become 31 = .ok (.iastore, 1) := by decide +kernel
theorem dX4_become_32 : decode cX4_become 32 = .ok (.iinc 2 1, 3) := by decide +kernel
theorem dX4_become_35 : decode cX4_become 35 = .ok (.goto (-33), 3) := by decide +kernel
theorem dX4_become_38 : decode cX4_become 38 = .ok (.iconst 0, 1) := by decide +kernel
theorem dX4_become_39 : decode cX4_become 39 = .ok (.istore_n 2, 1) := by decide +kernel
theorem dX4_become_40 : decode cX4_become 40 = .ok (.iload_n 2, 1) := by decide +kernel
theorem dX4_become_41 : decode cX4_become 41 = .ok (.bipush 6, 2) := by decide +kernel
theorem dX4_become_43 : decode cX4_become 43 = .ok (.if_icmp .ge 21, 3) := by decide +kernel
theorem dX4_become_46 : decode cX4_become 46 = .ok (.aload_n 0, 1) := by decide +kernel
theorem dX4_become_47 : decode cX4_become 47 = .ok (.getfield 18, 3) := by decide +kernel
theorem dX4_become_50 : decode cX4_become 50 = .ok (.iload_n 2, 1) := by decide +kernel
theorem dX4_become_51 : decode cX4_become 51 = .ok (.aload_n 1, 1) := by decide +kernel
theorem dX4_become_52 : decode cX4_become 52 = .ok (.getfield 18, 3) := by decide +kernel
theorem dX4_become_55 : decode cX4_become 55 = .ok (.iload_n 2, 1) := by decide +kernel
theorem dX4_become_56 : decode cX4_become 56 = .ok (.baload, 1) := by decide +kernel
theorem dX4_become_57 : decode cX4_become 57 = .ok (.bastore, 1) := by decide +kernel
theorem dX4_become_58 : decode cX4_become 58 = .ok (.iinc 2 1, 3) := by decide +kernel
theorem dX4_become_61 : decode cX4_become 61 = .ok (.goto (-21), 3) := by decide +kernel
theorem dX4_become_64 : decode cX4_become 64 = .ok (.return_, 1) := by decide +kernel
theorem dX4_spareOf_0 : decode cX4_spareOf 0 = .ok (.aload_n 0, 1) := by decide +kernel
theorem dX4_spareOf_1 : decode cX4_spareOf 1 = .ok (.iload_n 1, 1) := by decide +kernel
theorem dX4_spareOf_2 : decode cX4_spareOf 2 = .ok (.iconst (-1), 1) := by decide +kernel
theorem dX4_spareOf_3 : decode cX4_spareOf 3 = .ok (.invokevirtual 67, 3) := by decide +kernel
theorem dX4_spareOf_6 : decode cX4_spareOf 6 = .ok (.istore_n 2, 1) := by decide +kernel
theorem dX4_spareOf_7 : decode cX4_spareOf 7 = .ok (.iload_n 2, 1) := by decide +kernel
theorem dX4_spareOf_8 : decode cX4_spareOf 8 = .ok (.iconst (-1), 1) := by decide +kernel
theorem dX4_spareOf_9 : decode cX4_spareOf 9 = .ok (.if_icmp .ne 7, 3) := by decide +kernel
theorem dX4_spareOf_12 : decode cX4_spareOf 12 = .ok (.iconst 0, 1) := by decide +kernel
theorem dX4_spareOf_13 : decode cX4_spareOf 13 = .ok (.goto 19, 3) := by decide +kernel
theorem dX4_spareOf_16 : decode cX4_spareOf 16 = .ok (.aload_n 0, 1) := by decide +kernel
theorem dX4_spareOf_17 : decode cX4_spareOf 17 = .ok (.getfield 22, 3) := by decide +kernel
theorem dX4_spareOf_20 : decode cX4_spareOf 20 = .ok (.getfield 60, 3) := by decide +kernel
theorem dX4_spareOf_23 : decode cX4_spareOf 23 = .ok (.iload_n 1, 1) := by decide +kernel
theorem dX4_spareOf_24 : decode cX4_spareOf 24 = .ok (.iaload, 1) := by decide +kernel
theorem dX4_spareOf_25 : decode cX4_spareOf 25 = .ok (.aload_n 0, 1) := by decide +kernel
theorem dX4_spareOf_26 : decode cX4_spareOf 26 = .ok (.iload_n 1, 1) := by decide +kernel
theorem dX4_spareOf_27 : decode cX4_spareOf 27 = .ok (.iload_n 2, 1) := by decide +kernel
theorem dX4_spareOf_28 : decode cX4_spareOf 28 = .ok (.invokevirtual 63, 3) := by decide +kernel
theorem dX4_spareOf_31 : decode cX4_spareOf 31 = .ok (.isub, 1) := by decide +kernel
theorem dX4_spareOf_32 : decode cX4_spareOf 32 = .ok (.ireturn, 1) := by decide +kernel
theorem dX2_restsBefore_0 : decode cX2_restsBefore 0 = .ok (.aload_n 0, 1) := by decide +kernel
theorem dX2_restsBefore_1 : decode cX2_restsBefore 1 = .ok (.getfield 28, 3) := by decide +kernel
theorem dX2_restsBefore_4 : decode cX2_restsBefore 4 = .ok (.aload_n 1, 1) := by decide +kernel
theorem dX2_restsBefore_5 : decode cX2_restsBefore 5 = .ok (.invokevirtual 35, 3) := by decide +kernel
theorem dX2_restsBefore_8 : decode cX2_restsBefore 8 = .ok (.aload_n 0, 1) := by decide +kernel
theorem dX2_restsBefore_9 : decode cX2_restsBefore 9 = .ok (.getfield 19, 3) := by decide +kernel
theorem dX2_restsBefore_12 : decode cX2_restsBefore 12 = .ok (.aload_n 0, 1) := by decide +kernel
theorem dX2_restsBefore_13 : decode cX2_restsBefore 13 = .ok (.getfield 28, 3) := by decide +kernel
theorem dX2_restsBefore_16 : decode cX2_restsBefore 16 = .ok (.invokevirtual 39, 3) := by decide +kernel
theorem dX2_restsBefore_19 : decode cX2_restsBefore 19 = .ok (.iconst (-1), 1) := by decide +kernel
theorem dX2_restsBefore_20 : decode cX2_restsBefore 20 = .ok (.if_icmp .ne 5, 3) := by decide +kernel
theorem dX2_restsBefore_23 : decode cX2_restsBefore 23 = .ok (.iconst 0, 1) := by decide +kernel
theorem dX2_restsBefore_24 : decode cX2_restsBefore 24 = .ok (.ireturn, 1) := by decide +kernel
theorem dX2_restsBefore_25 : decode cX2_restsBefore 25 = .ok (.iconst 0, 1) := by decide +kernel
theorem dX2_restsBefore_26 : decode cX2_restsBefore 26 = .ok (.istore_n 2, 1) := by decide +kernel
theorem dX2_restsBefore_27 : decode cX2_restsBefore 27 = .ok (.iload_n 2, 1) := by decide +kernel
theorem dX2_restsBefore_28 : decode cX2_restsBefore 28 = .ok (.aload_n 0, 1) := by decide +kernel
theorem dX2_restsBefore_29 : decode cX2_restsBefore 29 = .ok (.getfield 15, 3) := by decide +kernel
theorem dX2_restsBefore_32 : decode cX2_restsBefore 32 = .ok (.getfield 45, 3) := by decide +kernel
theorem dX2_restsBefore_35 : decode cX2_restsBefore 35 = .ok (.if_icmp .ge 23, 3) := by decide +kernel
theorem dX2_restsBefore_38 : decode cX2_restsBefore 38 = .ok (.aload_n 0, 1) := by decide +kernel
theorem dX2_restsBefore_39 : decode cX2_restsBefore 39 = .ok (.getfield 9, 3) := by decide +kernel
theorem dX2_restsBefore_42 : decode cX2_restsBefore 42 = .ok (.iload_n 2, 1) := by decide +kernel
theorem dX2_restsBefore_43 : decode cX2_restsBefore 43 = .ok (.aload_n 0, 1) := by decide +kernel
theorem dX2_restsBefore_44 : decode cX2_restsBefore 44 = .ok (.getfield 28, 3) := by decide +kernel
theorem dX2_restsBefore_47 : decode cX2_restsBefore 47 = .ok (.iload_n 2, 1) := by decide +kernel
theorem dX2_restsBefore_48 : decode cX2_restsBefore 48 = .ok (.invokevirtual 51, 3) := by decide +kernel
theorem dX2_restsBefore_51 : decode cX2_restsBefore 51 = .ok (.iastore, 1) := by decide +kernel
theorem dX2_restsBefore_52 : decode cX2_restsBefore 52 = .ok (.iinc 2 1, 3) := by decide +kernel
theorem dX2_restsBefore_55 : decode cX2_restsBefore 55 = .ok (.goto (-28), 3) := by decide +kernel
theorem dX2_restsBefore_58 : decode cX2_restsBefore 58 = .ok (.iconst 1, 1) := by decide +kernel
theorem dX2_restsBefore_59 : decode cX2_restsBefore 59 = .ok (.ireturn, 1) := by decide +kernel
theorem dX4_give_0 : decode cX4_give 0 = .ok (.iconst 0, 1) := by decide +kernel
theorem dX4_give_1 : decode cX4_give 1 = .ok (.istore_n 3, 1) := by decide +kernel
theorem dX4_give_2 : decode cX4_give 2 = .ok (.iload_n 3, 1) := by decide +kernel
theorem dX4_give_3 : decode cX4_give 3 = .ok (.aload_n 0, 1) := by decide +kernel
theorem dX4_give_4 : decode cX4_give 4 = .ok (.getfield 22, 3) := by decide +kernel
theorem dX4_give_7 : decode cX4_give 7 = .ok (.getfield 26, 3) := by decide +kernel
theorem dX4_give_10 : decode cX4_give 10 = .ok (.if_icmp .ge 26, 3) := by decide +kernel
theorem dX4_give_13 : decode cX4_give 13 = .ok (.aload_n 0, 1) := by decide +kernel
theorem dX4_give_14 : decode cX4_give 14 = .ok (.getfield 15, 3) := by decide +kernel
theorem dX4_give_17 : decode cX4_give 17 = .ok (.iload_n 3, 1) := by decide +kernel
theorem dX4_give_18 : decode cX4_give 18 = .ok (.iaload, 1) := by decide +kernel
theorem dX4_give_19 : decode cX4_give 19 = .ok (.iload_n 1, 1) := by decide +kernel
theorem dX4_give_20 : decode cX4_give 20 = .ok (.if_icmp .ne 10, 3) := by decide +kernel
theorem dX4_give_23 : decode cX4_give 23 = .ok (.aload_n 0, 1) := by decide +kernel
theorem dX4_give_24 : decode cX4_give 24 = .ok (.getfield 15, 3) := by decide +kernel
theorem dX4_give_27 : decode cX4_give 27 = .ok (.iload_n 3, 1) := by decide +kernel
theorem dX4_give_28 : decode cX4_give 28 = .ok (.iload_n 2, 1) := by decide +kernel
theorem dX4_give_29 : decode cX4_give 29 = .ok (.iastore, 1) := by decide +kernel
theorem dX4_give_30 : decode cX4_give 30 = .ok (.iinc 3 1, 3) := by decide +kernel
theorem dX4_give_33 : decode cX4_give 33 = .ok (.goto (-31), 3) := by decide +kernel
theorem dX4_give_36 : decode cX4_give 36 = .ok (.return_, 1) := by decide +kernel
theorem dX2_roundsBehind_0 : decode cX2_roundsBehind 0 = .ok (.aload_n 0, 1) := by decide +kernel
theorem dX2_roundsBehind_1 : decode cX2_roundsBehind 1 = .ok (.getfield 32, 3) := by decide +kernel
theorem dX2_roundsBehind_4 : decode cX2_roundsBehind 4 = .ok (.aload_n 1, 1) := by decide +kernel
theorem dX2_roundsBehind_5 : decode cX2_roundsBehind 5 = .ok (.invokevirtual 35, 3) := by decide +kernel
theorem dX2_roundsBehind_8 : decode cX2_roundsBehind 8 = .ok (.aload_n 0, 1) := by decide +kernel
theorem dX2_roundsBehind_9 : decode cX2_roundsBehind 9 = .ok (.getfield 32, 3) := by decide +kernel
theorem dX2_roundsBehind_12 : decode cX2_roundsBehind 12 = .ok (.iload_n 3, 1) := by decide +kernel
theorem dX2_roundsBehind_13 : decode cX2_roundsBehind 13 = .ok (.iload_n 2, 1) := by decide +kernel
theorem dX2_roundsBehind_14 : decode cX2_roundsBehind 14 = .ok (.invokevirtual 55, 3) := by decide +kernel
theorem dX2_roundsBehind_17 : decode cX2_roundsBehind 17 = .ok (.aload_n 0, 1) := by decide +kernel
theorem dX2_roundsBehind_18 : decode cX2_roundsBehind 18 = .ok (.getfield 19, 3) := by decide +kernel
theorem dX2_roundsBehind_21 : decode cX2_roundsBehind 21 = .ok (.aload_n 0, 1) := by decide +kernel
theorem dX2_roundsBehind_22 : decode cX2_roundsBehind 22 = .ok (.getfield 32, 3) := by decide +kernel
theorem dX2_roundsBehind_25 : decode cX2_roundsBehind 25 = .ok (.invokevirtual 39, 3) := by decide +kernel
theorem dX2_roundsBehind_28 : decode cX2_roundsBehind 28 = .ok (.ireturn, 1) := by decide +kernel
theorem dX2_dearerFor_0 : decode cX2_dearerFor 0 = .ok (.aload_n 0, 1) := by decide +kernel
theorem dX2_dearerFor_1 : decode cX2_dearerFor 1 = .ok (.getfield 9, 3) := by decide +kernel
theorem dX2_dearerFor_4 : decode cX2_dearerFor 4 = .ok (.iload_n 1, 1) := by decide +kernel
theorem dX2_dearerFor_5 : decode cX2_dearerFor 5 = .ok (.iaload, 1) := by decide +kernel
theorem dX2_dearerFor_6 : decode cX2_dearerFor 6 = .ok (.aload_n 0, 1) := by decide +kernel
theorem dX2_dearerFor_7 : decode cX2_dearerFor 7 = .ok (.getfield 32, 3) := by decide +kernel
theorem dX2_dearerFor_10 : decode cX2_dearerFor 10 = .ok (.iload_n 1, 1) := by decide +kernel
theorem dX2_dearerFor_11 : decode cX2_dearerFor 11 = .ok (.invokevirtual 51, 3) := by decide +kernel
theorem dX2_dearerFor_14 : decode cX2_dearerFor 14 = .ok (.isub, 1) := by decide +kernel
theorem dX2_dearerFor_15 : decode cX2_dearerFor 15 = .ok (.ireturn, 1) := by decide +kernel
theorem dX2_harmInAll_0 : decode cX2_harmInAll 0 = .ok (.iconst 0, 1) := by decide +kernel
theorem dX2_harmInAll_1 : decode cX2_harmInAll 1 = .ok (.istore_n 1, 1) := by decide +kernel
theorem dX2_harmInAll_2 : decode cX2_harmInAll 2 = .ok (.iconst 0, 1) := by decide +kernel
theorem dX2_harmInAll_3 : decode cX2_harmInAll 3 = .ok (.istore_n 2, 1) := by decide +kernel
theorem dX2_harmInAll_4 : decode cX2_harmInAll 4 = .ok (.iload_n 2, 1) := by decide +kernel
theorem dX2_harmInAll_5 : decode cX2_harmInAll 5 = .ok (.aload_n 0, 1) := by decide +kernel
theorem dX2_harmInAll_6 : decode cX2_harmInAll 6 = .ok (.getfield 15, 3) := by decide +kernel
theorem dX2_harmInAll_9 : decode cX2_harmInAll 9 = .ok (.getfield 45, 3) := by decide +kernel
theorem dX2_harmInAll_12 : decode cX2_harmInAll 12 = .ok (.if_icmp .ge 31, 3) := by decide +kernel
theorem dX2_harmInAll_15 : decode cX2_harmInAll 15 = .ok (.iload_n 1, 1) := by decide +kernel
theorem dX2_harmInAll_16 : decode cX2_harmInAll 16 = .ok (.iconst 0, 1) := by decide +kernel
theorem dX2_harmInAll_17 : decode cX2_harmInAll 17 = .ok (.aload_n 0, 1) := by decide +kernel
theorem dX2_harmInAll_18 : decode cX2_harmInAll 18 = .ok (.iload_n 2, 1) := by decide +kernel
theorem dX2_harmInAll_19 : decode cX2_harmInAll 19 = .ok (.invokevirtual 59, 3) := by decide +kernel
theorem dX2_harmInAll_22 : decode cX2_harmInAll 22 = .ok (.invokestatic 62, 3) := by decide +kernel
theorem dX2_harmInAll_25 : decode cX2_harmInAll 25 = .ok (.aload_n 0, 1) := by decide +kernel
theorem dX2_harmInAll_26 : decode cX2_harmInAll 26 = .ok (.getfield 15, 3) := by decide +kernel
theorem dX2_harmInAll_29 : decode cX2_harmInAll 29 = .ok (.getfield 68, 3) := by decide +kernel
theorem dX2_harmInAll_32 : decode cX2_harmInAll 32 = .ok (.iload_n 2, 1) := by decide +kernel
theorem dX2_harmInAll_33 : decode cX2_harmInAll 33 = .ok (.iaload, 1) := by decide +kernel
theorem dX2_harmInAll_34 : decode cX2_harmInAll 34 = .ok (.imul, 1) := by decide +kernel
theorem dX2_harmInAll_35 : decode cX2_harmInAll 35 = .ok (.iadd, 1) := by decide +kernel
theorem dX2_harmInAll_36 : decode cX2_harmInAll 36 = .ok (.istore_n 1, 1) := by decide +kernel
theorem dX2_harmInAll_37 : decode cX2_harmInAll 37 = .ok (.iinc 2 1, 3) := by decide +kernel
theorem dX2_harmInAll_40 : decode cX2_harmInAll 40 = .ok (.goto (-36), 3) := by decide +kernel
theorem dX2_harmInAll_43 : decode cX2_harmInAll 43 = .ok (.iload_n 1, 1) := by decide +kernel
theorem dX2_harmInAll_44 : decode cX2_harmInAll 44 = .ok (.ireturn, 1) := by decide +kernel
theorem dX2_sortsHarmed_0 : decode cX2_sortsHarmed 0 = .ok (.iconst 0, 1) := by decide +kernel
theorem dX2_sortsHarmed_1 : decode cX2_sortsHarmed 1 = .ok (.istore_n 1, 1) := by decide +kernel
theorem dX2_sortsHarmed_2 : decode cX2_sortsHarmed 2 = .ok (.iconst 0, 1) := by decide +kernel
theorem dX2_sortsHarmed_3 : decode cX2_sortsHarmed 3 = .ok (.istore_n 2, 1) := by decide +kernel
theorem dX2_sortsHarmed_4 : decode cX2_sortsHarmed 4 = .ok (.iload_n 2, 1) := by decide +kernel
theorem dX2_sortsHarmed_5 : decode cX2_sortsHarmed 5 = .ok (.aload_n 0, 1) := by decide +kernel
theorem dX2_sortsHarmed_6 : decode cX2_sortsHarmed 6 = .ok (.getfield 15, 3) := by decide +kernel
theorem dX2_sortsHarmed_9 : decode cX2_sortsHarmed 9 = .ok (.getfield 45, 3) := by decide +kernel
theorem dX2_sortsHarmed_12 : decode cX2_sortsHarmed 12 = .ok (.if_icmp .ge 23, 3) := by decide +kernel
theorem dX2_sortsHarmed_15 : decode cX2_sortsHarmed 15 = .ok (.aload_n 0, 1) := by decide +kernel
theorem dX2_sortsHarmed_16 : decode cX2_sortsHarmed 16 = .ok (.iload_n 2, 1) := by decide +kernel
theorem dX2_sortsHarmed_17 : decode cX2_sortsHarmed 17 = .ok (.invokevirtual 59, 3) := by decide +kernel
theorem dX2_sortsHarmed_20 : decode cX2_sortsHarmed 20 = .ok (.ifCond .le 9, 3) := by decide +kernel
theorem dX2_sortsHarmed_23 : decode cX2_sortsHarmed 23 = .ok (.iload_n 1, 1) := by decide +kernel
theorem dX2_sortsHarmed_24 : decode cX2_sortsHarmed 24 = .ok (.iconst 1, 1) := by decide +kernel
theorem dX2_sortsHarmed_25 : decode cX2_sortsHarmed 25 = .ok (.iload_n 2, 1) := by decide +kernel
theorem dX2_sortsHarmed_26 : decode cX2_sortsHarmed 26 = .ok (.ishl, 1) := by decide +kernel
theorem dX2_sortsHarmed_27 : decode cX2_sortsHarmed 27 = .ok (.ior, 1) := by decide +kernel
theorem dX2_sortsHarmed_28 : decode cX2_sortsHarmed 28 = .ok (.istore_n 1, 1) := by decide +kernel
theorem dX2_sortsHarmed_29 : decode cX2_sortsHarmed 29 = .ok (.iinc 2 1, 3) := by decide +kernel
theorem dX2_sortsHarmed_32 : decode cX2_sortsHarmed 32 = .ok (.goto (-28), 3) := by decide +kernel
theorem dX2_sortsHarmed_35 : decode cX2_sortsHarmed 35 = .ok (.iload_n 1, 1) := by decide +kernel
theorem dX2_sortsHarmed_36 : decode cX2_sortsHarmed 36 = .ok (.ireturn, 1) := by decide +kernel
theorem dX2_harmOf_0 : decode cX2_harmOf 0 = .ok (.aload_n 0, 1) := by decide +kernel
theorem dX2_harmOf_1 : decode cX2_harmOf 1 = .ok (.getfield 32, 3) := by decide +kernel
theorem dX2_harmOf_4 : decode cX2_harmOf 4 = .ok (.aload_n 1, 1) := by decide +kernel
theorem dX2_harmOf_5 : decode cX2_harmOf 5 = .ok (.invokevirtual 35, 3) := by decide +kernel
theorem dX2_harmOf_8 : decode cX2_harmOf 8 = .ok (.aload_n 0, 1) := by decide +kernel
theorem dX2_harmOf_9 : decode cX2_harmOf 9 = .ok (.getfield 32, 3) := by decide +kernel
theorem dX2_harmOf_12 : decode cX2_harmOf 12 = .ok (.iload_n 3, 1) := by decide +kernel
theorem dX2_harmOf_13 : decode cX2_harmOf 13 = .ok (.iload_n 2, 1) := by decide +kernel
theorem dX2_harmOf_14 : decode cX2_harmOf 14 = .ok (.invokevirtual 55, 3) := by decide +kernel
theorem dX2_harmOf_17 : decode cX2_harmOf 17 = .ok (.aload_n 0, 1) := by decide +kernel
theorem dX2_harmOf_18 : decode cX2_harmOf 18 = .ok (.getfield 19, 3) := by decide +kernel
theorem dX2_harmOf_21 : decode cX2_harmOf 21 = .ok (.aload_n 0, 1) := by decide +kernel
theorem dX2_harmOf_22 : decode cX2_harmOf 22 = .ok (.getfield 32, 3) := by decide +kernel
theorem dX2_harmOf_25 : decode cX2_harmOf 25 = .ok (.invokevirtual 39, 3) := by decide +kernel
theorem dX2_harmOf_28 : decode cX2_harmOf 28 = .ok (.iconst (-1), 1) := by decide +kernel
theorem dX2_harmOf_29 : decode cX2_harmOf 29 = .ok (.if_icmp .ne 7, 3) := by decide +kernel
theorem dX2_harmOf_32 : decode cX2_harmOf 32 = .ok (.iconst (-1), 1) := by decide +kernel
theorem dX2_harmOf_33 : decode cX2_harmOf 33 = .ok (.goto 7, 3) := by decide +kernel
theorem dX2_harmOf_36 : decode cX2_harmOf 36 = .ok (.aload_n 0, 1) := by decide +kernel
theorem dX2_harmOf_37 : decode cX2_harmOf 37 = .ok (.invokevirtual 71, 3) := by decide +kernel
theorem dX2_harmOf_40 : decode cX2_harmOf 40 = .ok (.ireturn, 1) := by decide +kernel
theorem dX2_dearestWhenSold_0 : decode cX2_dearestWhenSold 0 = .ok (.aload_n 0, 1) := by decide +kernel
theorem dX2_dearestWhenSold_1 : decode cX2_dearestWhenSold 1 = .ok (.getfield 32, 3) := by decide +kernel
theorem dX2_dearestWhenSold_4 : decode cX2_dearestWhenSold 4 = .ok (.aload_n 1, 1) := by decide +kernel
theorem dX2_dearestWhenSold_5 : decode cX2_dearestWhenSold 5 = .ok (.invokevirtual 35, 3) := by decide +kernel
theorem dX2_dearestWhenSold_8 : decode cX2_dearestWhenSold 8 = .ok (.aload_n 0, 1) := by decide +kernel
theorem dX2_dearestWhenSold_9 : decode cX2_dearestWhenSold 9 = .ok (.getfield 32, 3) := by decide +kernel
theorem dX2_dearestWhenSold_12 : decode cX2_dearestWhenSold 12 = .ok (.iload_n 3, 1) := by decide +kernel
theorem dX2_dearestWhenSold_13 : decode cX2_dearestWhenSold 13 = .ok (.iload_n 2, 1) := by decide +kernel
theorem dX2_dearestWhenSold_14 : decode cX2_dearestWhenSold 14 = .ok (.invokevirtual 55, 3) := by decide +kernel
theorem dX2_dearestWhenSold_17 : decode cX2_dearestWhenSold 17 = .ok (.iconst 0, 1) := by decide +kernel
theorem dX2_dearestWhenSold_18 : decode cX2_dearestWhenSold 18 = .ok (.istore 6, 2) := by decide +kernel
theorem dX2_dearestWhenSold_20 : decode cX2_dearestWhenSold 20 = .ok (.iload 6, 2) := by decide +kernel
theorem dX2_dearestWhenSold_22 : decode cX2_dearestWhenSold 22 = .ok (.aload_n 0, 1) := by decide +kernel
theorem dX2_dearestWhenSold_23 : decode cX2_dearestWhenSold 23 = .ok (.getfield 15, 3) := by decide +kernel
theorem dX2_dearestWhenSold_26 : decode cX2_dearestWhenSold 26 = .ok (.getfield 75, 3) := by decide +kernel
theorem dX2_dearestWhenSold_29 : decode cX2_dearestWhenSold 29 = .ok (.if_icmp .ge 32, 3) := by decide +kernel
theorem dX2_dearestWhenSold_32 : decode cX2_dearestWhenSold 32 = .ok (.iload 5, 2) := by decide +kernel
theorem dX2_dearestWhenSold_34 : decode cX2_dearestWhenSold 34 = .ok (.iload 6, 2) := by decide +kernel
theorem dX2_dearestWhenSold_36 : decode cX2_dearestWhenSold 36 = .ok (.ishr, 1) := by decide +kernel
theorem dX2_dearestWhenSold_37 : decode cX2_dearestWhenSold 37 = .ok (.iconst 1, 1) := by decide +kernel
theorem dX2_dearestWhenSold_38 : decode cX2_dearestWhenSold 38 = .ok (.iand, 1) := by decide +kernel
theorem dX2_dearestWhenSold_39 : decode cX2_dearestWhenSold 39 = .ok (.iconst 1, 1) := by decide +kernel
theorem dX2_dearestWhenSold_40 : decode cX2_dearestWhenSold 40 = .ok (.if_icmp .ne 15, 3) := by decide +kernel
theorem dX2_dearestWhenSold_43 : decode cX2_dearestWhenSold 43 = .ok (.aload_n 0, 1) := by decide +kernel
theorem dX2_dearestWhenSold_44 : decode cX2_dearestWhenSold 44 = .ok (.getfield 32, 3) := by decide +kernel
theorem dX2_dearestWhenSold_47 : decode cX2_dearestWhenSold 47 = .ok (.getfield 78, 3) := by decide +kernel
theorem dX2_dearestWhenSold_50 : decode cX2_dearestWhenSold 50 = .ok (.iload 6, 2) := by decide +kernel
theorem dX2_dearestWhenSold_52 : decode cX2_dearestWhenSold 52 = .ok (.iload 4, 2) := by decide +kernel
theorem dX2_dearestWhenSold_54 : decode cX2_dearestWhenSold 54 = .ok (.iastore, 1) := by decide +kernel
theorem dX2_dearestWhenSold_55 : decode cX2_dearestWhenSold 55 = .ok (.iinc 6 1, 3) := by decide +kernel
theorem dX2_dearestWhenSold_58 : decode cX2_dearestWhenSold 58 = .ok (.goto (-38), 3) := by decide +kernel
theorem dX2_dearestWhenSold_61 : decode cX2_dearestWhenSold 61 = .ok (.aload_n 0, 1) := by decide +kernel
theorem dX2_dearestWhenSold_62 : decode cX2_dearestWhenSold 62 = .ok (.getfield 19, 3) := by decide +kernel
theorem dX2_dearestWhenSold_65 : decode cX2_dearestWhenSold 65 = .ok (.aload_n 0, 1) := by decide +kernel
theorem dX2_dearestWhenSold_66 : decode cX2_dearestWhenSold 66 = .ok (.getfield 32, 3) := by decide +kernel
theorem dX2_dearestWhenSold_69 : decode cX2_dearestWhenSold 69 = .ok (.invokevirtual 39, 3) := by decide +kernel
theorem dX2_dearestWhenSold_72 : decode cX2_dearestWhenSold 72 = .ok (.iconst (-1), 1) := by decide +kernel
theorem dX2_dearestWhenSold_73 : decode cX2_dearestWhenSold 73 = .ok (.if_icmp .ne 6, 3) := by decide +kernel
theorem dX2_dearestWhenSold_76 : decode cX2_dearestWhenSold 76 = .ok (.ldc 81, 2) := by decide +kernel
theorem dX2_dearestWhenSold_78 : decode cX2_dearestWhenSold 78 = .ok (.ireturn, 1) := by decide +kernel
theorem dX2_dearestWhenSold_79 : decode cX2_dearestWhenSold 79 = .ok (.iconst 0, 1) := by decide +kernel
theorem dX2_dearestWhenSold_80 : decode cX2_dearestWhenSold 80 = .ok (.istore 6, 2) := by decide +kernel
theorem dX2_dearestWhenSold_82 : decode cX2_dearestWhenSold 82 = .ok (.iconst 0, 1) := by decide +kernel
theorem dX2_dearestWhenSold_83 : decode cX2_dearestWhenSold 83 = .ok (.istore 7, 2) := by decide +kernel
theorem dX2_dearestWhenSold_85 : decode cX2_dearestWhenSold 85 = .ok (.iload 7, 2) := by decide +kernel
theorem dX2_dearestWhenSold_87 : decode cX2_dearestWhenSold 87 = .ok (.aload_n 0, 1) := by decide +kernel
theorem dX2_dearestWhenSold_88 : decode cX2_dearestWhenSold 88 = .ok (.getfield 15, 3) := by decide +kernel
theorem dX2_dearestWhenSold_91 : decode cX2_dearestWhenSold 91 = .ok (.getfield 45, 3) := by decide +kernel
theorem dX2_dearestWhenSold_94 : decode cX2_dearestWhenSold 94 = .ok (.if_icmp .ge 22, 3) := by decide +kernel
theorem dX2_dearestWhenSold_97 : decode cX2_dearestWhenSold 97 = .ok (.iload 6, 2) := by decide +kernel
theorem dX2_dearestWhenSold_99 : decode cX2_dearestWhenSold 99 = .ok (.aload_n 0, 1) := by decide +kernel
theorem dX2_dearestWhenSold_100 : decode cX2_dearestWhenSold 100 = .ok (.iload 7, 2) := by decide +kernel
theorem dX2_dearestWhenSold_102 : decode cX2_dearestWhenSold 102 = .ok (.invokevirtual 59, 3) := by decide +kernel
theorem dX2_dearestWhenSold_105 : decode cX2_dearestWhenSold 105 = .ok (.invokestatic 62, 3) := by decide +kernel
theorem dX2_dearestWhenSold_108 : decode cX2_dearestWhenSold 108 = .ok (.istore 6, 2) := by decide +kernel
theorem dX2_dearestWhenSold_110 : decode cX2_dearestWhenSold 110 = .ok (.iinc 7 1, 3) := by decide +kernel
theorem dX2_dearestWhenSold_113 : decode cX2_dearestWhenSold 113 = .ok (.goto (-28), 3) := by decide +kernel
theorem dX2_dearestWhenSold_116 : decode cX2_dearestWhenSold 116 = .ok (.iload 6, 2) := by decide +kernel
theorem dX2_dearestWhenSold_118 : decode cX2_dearestWhenSold 118 = .ok (.ireturn, 1) := by decide +kernel
theorem dX3_countSold_0 : decode cX3_countSold 0 = .ok (.iconst 0, 1) := by decide +kernel
theorem dX3_countSold_1 : decode cX3_countSold 1 = .ok (.istore_n 2, 1) := by decide +kernel
theorem dX3_countSold_2 : decode cX3_countSold 2 = .ok (.iload_n 2, 1) := by decide +kernel
theorem dX3_countSold_3 : decode cX3_countSold 3 = .ok (.bipush 6, 2) := by decide +kernel
theorem dX3_countSold_5 : decode cX3_countSold 5 = .ok (.if_icmp .ge 16, 3) := by decide +kernel
theorem dX3_countSold_8 : decode cX3_countSold 8 = .ok (.aload_n 0, 1) := by decide +kernel
theorem dX3_countSold_9 : decode cX3_countSold 9 = .ok (.getfield 9, 3) := by decide +kernel
theorem dX3_countSold_12 : decode cX3_countSold 12 = .ok (.iload_n 2, 1) := by decide +kernel
theorem dX3_countSold_13 : decode cX3_countSold 13 = .ok (.iconst 0, 1) := by decide +kernel
theorem dX3_countSold_14 : decode cX3_countSold 14 = .ok (.iastore, 1) := by decide +kernel
theorem dX3_countSold_15 : decode cX3_countSold 15 = .ok (.iinc 2 1, 3) := by decide +kernel
theorem dX3_countSold_18 : decode cX3_countSold 18 = .ok (.goto (-16), 3) := by decide +kernel
theorem dX3_countSold_21 : decode cX3_countSold 21 = .ok (.iconst 0, 1) := by decide +kernel
theorem dX3_countSold_22 : decode cX3_countSold 22 = .ok (.istore_n 2, 1) := by decide +kernel
theorem dX3_countSold_23 : decode cX3_countSold 23 = .ok (.iload_n 2, 1) := by decide +kernel
theorem dX3_countSold_24 : decode cX3_countSold 24 = .ok (.aload_n 0, 1) := by decide +kernel
theorem dX3_countSold_25 : decode cX3_countSold 25 = .ok (.getfield 25, 3) := by decide +kernel
theorem dX3_countSold_28 : decode cX3_countSold 28 = .ok (.getfield 59, 3) := by decide +kernel
theorem dX3_countSold_31 : decode cX3_countSold 31 = .ok (.if_icmp .ge 44, 3) := by decide +kernel
theorem dX3_countSold_34 : decode cX3_countSold 34 = .ok (.aload_n 1, 1) := by decide +kernel
theorem dX3_countSold_35 : decode cX3_countSold 35 = .ok (.iload_n 2, 1) := by decide +kernel
theorem dX3_countSold_36 : decode cX3_countSold 36 = .ok (.iconst (-1), 1) := by decide +kernel
theorem dX3_countSold_37 : decode cX3_countSold 37 = .ok (.invokevirtual 62, 3) := by decide +kernel
theorem dX3_countSold_40 : decode cX3_countSold 40 = .ok (.istore_n 3, 1) := by decide +kernel
theorem dX3_countSold_41 : decode cX3_countSold 41 = .ok (.iload_n 3, 1) := by decide +kernel
theorem dX3_countSold_42 : decode cX3_countSold 42 = .ok (.iconst (-1), 1) := by decide +kernel
theorem dX3_countSold_43 : decode cX3_countSold 43 = .ok (.if_icmp .eq 26, 3) := by decide +kernel
theorem dX3_countSold_46 : decode cX3_countSold 46 = .ok (.aload_n 0, 1) := by decide +kernel
theorem dX3_countSold_47 : decode cX3_countSold 47 = .ok (.getfield 9, 3) := by decide +kernel
theorem dX3_countSold_50 : decode cX3_countSold 50 = .ok (.aload_n 1, 1) := by decide +kernel
theorem dX3_countSold_51 : decode cX3_countSold 51 = .ok (.getfield 67, 3) := by decide +kernel
theorem dX3_countSold_54 : decode cX3_countSold 54 = .ok (.iload_n 3, 1) := by decide +kernel
theorem dX3_countSold_55 : decode cX3_countSold 55 = .ok (.iaload, 1) := by decide +kernel
theorem dX3_countSold_56 : decode cX3_countSold 56 = .ok (.dup2, 1) := by decide +kernel
theorem dX3_countSold_57 : decode cX3_countSold 57 = .ok (.iaload, 1) := by decide +kernel
theorem dX3_countSold_58 : decode cX3_countSold 58 = .ok (.aload_n 0, 1) := by decide +kernel
theorem dX3_countSold_59 : decode cX3_countSold 59 = .ok (.getfield 25, 3) := by decide +kernel
theorem dX3_countSold_62 : decode cX3_countSold 62 = .ok (.getfield 70, 3) := by decide +kernel
theorem dX3_countSold_65 : decode cX3_countSold 65 = .ok (.iload_n 2, 1) := by decide +kernel
theorem dX3_countSold_66 : decode cX3_countSold 66 = .ok (.iaload, 1) := by decide +kernel
theorem dX3_countSold_67 : decode cX3_countSold 67 = .ok (.iadd, 1) := by decide +kernel
theorem dX3_countSold_68 : decode cX3_countSold 68 = .ok (.iastore, 1) := by decide +kernel
theorem dX3_countSold_69 : decode cX3_countSold 69 = .ok (.iinc 2 1, 3) := by decide +kernel
theorem dX3_countSold_72 : decode cX3_countSold 72 = .ok (.goto (-49), 3) := by decide +kernel
theorem dX3_countSold_75 : decode cX3_countSold 75 = .ok (.return_, 1) := by decide +kernel
theorem dX3_hundredths_0 : decode cX3_hundredths 0 = .ok (.iload_n 1, 1) := by decide +kernel
theorem dX3_hundredths_1 : decode cX3_hundredths 1 = .ok (.ifCond .le 12, 3) := by decide +kernel
theorem dX3_hundredths_4 : decode cX3_hundredths 4 = .ok (.bipush 100, 2) := by decide +kernel
theorem dX3_hundredths_6 : decode cX3_hundredths 6 = .ok (.iload_n 0, 1) := by decide +kernel
theorem dX3_hundredths_7 : decode cX3_hundredths 7 = .ok (.imul, 1) := by decide +kernel
theorem dX3_hundredths_8 : decode cX3_hundredths 8 = .ok (.iload_n 1, 1) := by decide +kernel
theorem dX3_hundredths_9 : decode cX3_hundredths 9 = .ok (.idiv, 1) := by decide +kernel
theorem dX3_hundredths_10 : decode cX3_hundredths 10 = .ok (.goto 4, 3) := by decide +kernel
theorem dX3_hundredths_13 : decode cX3_hundredths 13 = .ok (.iconst 0, 1) := by decide +kernel
theorem dX3_hundredths_14 : decode cX3_hundredths 14 = .ok (.ireturn, 1) := by decide +kernel
theorem dX3_leastDistance_0 : decode cX3_leastDistance 0 = .ok (.bipush 99, 2) := by decide +kernel
theorem dX3_leastDistance_2 : decode cX3_leastDistance 2 = .ok (.istore 4, 2) := by decide +kernel
theorem dX3_leastDistance_4 : decode cX3_leastDistance 4 = .ok (.iconst 0, 1) := by decide +kernel
theorem dX3_leastDistance_5 : decode cX3_leastDistance 5 = .ok (.istore 5, 2) := by decide +kernel
theorem dX3_leastDistance_7 : decode cX3_leastDistance 7 = .ok (.iload 5, 2) := by decide +kernel
theorem dX3_leastDistance_9 : decode cX3_leastDistance 9 = .ok (.aload_n 0, 1) := by decide +kernel
theorem dX3_leastDistance_10 : decode cX3_leastDistance 10 = .ok (.getfield 25, 3) := by decide +kernel
theorem dX3_leastDistance_13 : decode cX3_leastDistance 13 = .ok (.getfield 73, 3) := by decide +kernel
theorem dX3_leastDistance_16 : decode cX3_leastDistance 16 = .ok (.if_icmp .ge 113, 3) := by decide +kernel
theorem dX3_leastDistance_19 : decode cX3_leastDistance 19 = .ok (.iconst 0, 1) := by decide +kernel
theorem dX3_leastDistance_20 : decode cX3_leastDistance 20 = .ok (.istore 6, 2) := by decide +kernel
theorem dX3_leastDistance_22 : decode cX3_leastDistance 22 = .ok (.iload 6, 2) := by decide +kernel
theorem dX3_leastDistance_24 : decode cX3_leastDistance 24 = .ok (.aload_n 0, 1) := by decide +kernel
theorem dX3_leastDistance_25 : decode cX3_leastDistance 25 = .ok (.getfield 25, 3) := by decide +kernel
theorem dX3_leastDistance_28 : decode cX3_leastDistance 28 = .ok (.getfield 73, 3) := by decide +kernel
theorem dX3_leastDistance_31 : decode cX3_leastDistance 31 = .ok (.if_icmp .ge 92, 3) := by decide +kernel
theorem dX3_leastDistance_34 : decode cX3_leastDistance 34 = .ok (.aload_n 1, 1) := by decide +kernel
theorem dX3_leastDistance_35 : decode cX3_leastDistance 35 = .ok (.getfield 67, 3) := by decide +kernel
theorem dX3_leastDistance_38 : decode cX3_leastDistance 38 = .ok (.iload 5, 2) := by decide +kernel
theorem dX3_leastDistance_40 : decode cX3_leastDistance 40 = .ok (.iaload, 1) := by decide +kernel
theorem dX3_leastDistance_41 : decode cX3_leastDistance 41 = .ok (.iload_n 2, 1) := by decide +kernel
theorem dX3_leastDistance_42 : decode cX3_leastDistance 42 = .ok (.if_icmp .ne 18, 3) := by decide +kernel
theorem dX3_leastDistance_45 : decode cX3_leastDistance 45 = .ok (.aload_n 1, 1) := by decide +kernel
theorem dX3_leastDistance_46 : decode cX3_leastDistance 46 = .ok (.getfield 67, 3) := by decide +kernel
theorem dX3_leastDistance_49 : decode cX3_leastDistance 49 = .ok (.iload 6, 2) := by decide +kernel
theorem dX3_leastDistance_51 : decode cX3_leastDistance 51 = .ok (.iaload, 1) := by decide +kernel
theorem dX3_leastDistance_52 : decode cX3_leastDistance 52 = .ok (.iload_n 3, 1) := by decide +kernel
theorem dX3_leastDistance_53 : decode cX3_leastDistance 53 = .ok (.if_icmp .ne 7, 3) := by decide +kernel
theorem dX3_leastDistance_56 : decode cX3_leastDistance 56 = .ok (.iconst 1, 1) := by decide +kernel
theorem dX3_leastDistance_57 : decode cX3_leastDistance 57 = .ok (.goto 4, 3) := by decide +kernel
theorem dX3_leastDistance_60 : decode cX3_leastDistance 60 = .ok (.iconst 0, 1) := by decide +kernel
theorem dX3_leastDistance_61 : decode cX3_leastDistance 61 = .ok (.istore 7, 2) := by decide +kernel
theorem dX3_leastDistance_63 : decode cX3_leastDistance 63 = .ok (.iload 7, 2) := by decide +kernel
theorem dX3_leastDistance_65 : decode cX3_leastDistance 65 = .ok (.ifCond .eq 52, 3) := by decide +kernel
theorem dX3_leastDistance_68 : decode cX3_leastDistance 68 = .ok (.aload_n 1, 1) := by decide +kernel
theorem dX3_leastDistance_69 : decode cX3_leastDistance 69 = .ok (.iload 5, 2) := by decide +kernel
theorem dX3_leastDistance_71 : decode cX3_leastDistance 71 = .ok (.invokevirtual 76, 3) := by decide +kernel
theorem dX3_leastDistance_74 : decode cX3_leastDistance 74 = .ok (.ifCond .eq 43, 3) := by decide +kernel
theorem dX3_leastDistance_77 : decode cX3_leastDistance 77 = .ok (.aload_n 1, 1) := by decide +kernel
theorem dX3_leastDistance_78 : decode cX3_leastDistance 78 = .ok (.iload 6, 2) := by decide +kernel
theorem dX3_leastDistance_80 : decode cX3_leastDistance 80 = .ok (.invokevirtual 76, 3) := by decide +kernel
theorem dX3_leastDistance_83 : decode cX3_leastDistance 83 = .ok (.ifCond .eq 34, 3) := by decide +kernel
theorem dX3_leastDistance_86 : decode cX3_leastDistance 86 = .ok (.iload 4, 2) := by decide +kernel
theorem dX3_leastDistance_88 : decode cX3_leastDistance 88 = .ok (.aload_n 0, 1) := by decide +kernel
theorem dX3_leastDistance_89 : decode cX3_leastDistance 89 = .ok (.getfield 25, 3) := by decide +kernel
theorem dX3_leastDistance_92 : decode cX3_leastDistance 92 = .ok (.getfield 80, 3) := by decide +kernel
theorem dX3_leastDistance_95 : decode cX3_leastDistance 95 = .ok (.iload 5, 2) := by decide +kernel
theorem dX3_leastDistance_97 : decode cX3_leastDistance 97 = .ok (.iaload, 1) := by decide +kernel
theorem dX3_leastDistance_98 : decode cX3_leastDistance 98 = .ok (.aload_n 0, 1) := by decide +kernel
theorem dX3_leastDistance_99 : decode cX3_leastDistance 99 = .ok (.getfield 25, 3) := by decide +kernel
theorem dX3_leastDistance_102 : decode cX3_leastDistance 102 = .ok (.getfield 80, 3) := by decide +kernel
theorem dX3_leastDistance_105 : decode cX3_leastDistance 105 = .ok (.iload 6, 2) := by decide +kernel
theorem dX3_leastDistance_107 : decode cX3_leastDistance 107 = .ok (.iaload, 1) := by decide +kernel
theorem dX3_leastDistance_108 : decode cX3_leastDistance 108 = .ok (.isub, 1) := by decide +kernel
theorem dX3_leastDistance_109 : decode cX3_leastDistance 109 = .ok (.invokestatic 83, 3) := by decide +kernel
theorem dX3_leastDistance_112 : decode cX3_leastDistance 112 = .ok (.invokestatic 89, 3) := by decide +kernel
theorem dX3_leastDistance_115 : decode cX3_leastDistance 115 = .ok (.istore 4, 2) := by decide +kernel
theorem dX3_leastDistance_117 : decode cX3_leastDistance 117 = .ok (.iinc 6 1, 3) := by decide +kernel
theorem dX3_leastDistance_120 : decode cX3_leastDistance 120 = .ok (.goto (-98), 3) := by decide +kernel
theorem dX3_leastDistance_123 : decode cX3_leastDistance 123 = .ok (.iinc 5 1, 3) := by decide +kernel
theorem dX3_leastDistance_126 : decode cX3_leastDistance 126 = .ok (.goto (-119), 3) := by decide +kernel
theorem dX3_leastDistance_129 : decode cX3_leastDistance 129 = .ok (.iload 4, 2) := by decide +kernel
theorem dX3_leastDistance_131 : decode cX3_leastDistance 131 = .ok (.ireturn, 1) := by decide +kernel
theorem dX3_weigh_0 : decode cX3_weigh 0 = .ok (.aload_n 0, 1) := by decide +kernel
theorem dX3_weigh_1 : decode cX3_weigh 1 = .ok (.aload_n 1, 1) := by decide +kernel
theorem dX3_weigh_2 : decode cX3_weigh 2 = .ok (.invokevirtual 29, 3) := by decide +kernel
theorem dX3_weigh_5 : decode cX3_weigh 5 = .ok (.iconst 0, 1) := by decide +kernel
theorem dX3_weigh_6 : decode cX3_weigh 6 = .ok (.istore 4, 2) := by decide +kernel
theorem dX3_weigh_8 : decode cX3_weigh 8 = .ok (.aload_n 0, 1) := by decide +kernel
theorem dX3_weigh_9 : decode cX3_weigh 9 = .ok (.aload_n 0, 1) := by decide +kernel
theorem dX3_weigh_10 : decode cX3_weigh 10 = .ok (.getfield 9, 3) := by decide +kernel
theorem dX3_weigh_13 : decode cX3_weigh 13 = .ok (.iload_n 2, 1) := by decide +kernel
theorem dX3_weigh_14 : decode cX3_weigh 14 = .ok (.iaload, 1) := by decide +kernel
theorem dX3_weigh_15 : decode cX3_weigh 15 = .ok (.ifCond .le 16, 3) := by decide +kernel
theorem dX3_weigh_18 : decode cX3_weigh 18 = .ok (.aload_n 0, 1) := by decide +kernel
theorem dX3_weigh_19 : decode cX3_weigh 19 = .ok (.getfield 9, 3) := by decide +kernel
theorem dX3_weigh_22 : decode cX3_weigh 22 = .ok (.iload_n 3, 1) := by decide +kernel
theorem dX3_weigh_23 : decode cX3_weigh 23 = .ok (.iaload, 1) := by decide +kernel
theorem dX3_weigh_24 : decode cX3_weigh 24 = .ok (.ifCond .le 7, 3) := by decide +kernel
theorem dX3_weigh_27 : decode cX3_weigh 27 = .ok (.iconst (-1), 1) := by decide +kernel
theorem dX3_weigh_28 : decode cX3_weigh 28 = .ok (.goto 4, 3) := by decide +kernel
theorem dX3_weigh_31 : decode cX3_weigh 31 = .ok (.iconst 0, 1) := by decide +kernel
theorem dX3_weigh_32 : decode cX3_weigh 32 = .ok (.putfield 33, 3) := by decide +kernel
theorem dX3_weigh_35 : decode cX3_weigh 35 = .ok (.iconst 0, 1) := by decide +kernel
theorem dX3_weigh_36 : decode cX3_weigh 36 = .ok (.istore 5, 2) := by decide +kernel
theorem dX3_weigh_38 : decode cX3_weigh 38 = .ok (.iload 5, 2) := by decide +kernel
theorem dX3_weigh_40 : decode cX3_weigh 40 = .ok (.aload_n 0, 1) := by decide +kernel
theorem dX3_weigh_41 : decode cX3_weigh 41 = .ok (.getfield 25, 3) := by decide +kernel
theorem dX3_weigh_44 : decode cX3_weigh 44 = .ok (.getfield 37, 3) := by decide +kernel
theorem dX3_weigh_47 : decode cX3_weigh 47 = .ok (.if_icmp .ge 45, 3) := by decide +kernel
theorem dX3_weigh_50 : decode cX3_weigh 50 = .ok (.iload 4, 2) := by decide +kernel
theorem dX3_weigh_52 : decode cX3_weigh 52 = .ok (.aload_n 0, 1) := by decide +kernel
theorem dX3_weigh_53 : decode cX3_weigh 53 = .ok (.getfield 9, 3) := by decide +kernel
theorem dX3_weigh_56 : decode cX3_weigh 56 = .ok (.iload 5, 2) := by decide +kernel
theorem dX3_weigh_58 : decode cX3_weigh 58 = .ok (.iaload, 1) := by decide +kernel
theorem dX3_weigh_59 : decode cX3_weigh 59 = .ok (.iadd, 1) := by decide +kernel
theorem dX3_weigh_60 : decode cX3_weigh 60 = .ok (.istore 4, 2) := by decide +kernel
theorem dX3_weigh_62 : decode cX3_weigh 62 = .ok (.aload_n 0, 1) := by decide +kernel
theorem dX3_weigh_63 : decode cX3_weigh 63 = .ok (.dup, 1) := by decide +kernel
theorem dX3_weigh_64 : decode cX3_weigh 64 = .ok (.getfield 33, 3) := by decide +kernel
theorem dX3_weigh_67 : decode cX3_weigh 67 = .ok (.aload_n 0, 1) := by decide +kernel
theorem dX3_weigh_68 : decode cX3_weigh 68 = .ok (.getfield 9, 3) := by decide +kernel
theorem dX3_weigh_71 : decode cX3_weigh 71 = .ok (.iload 5, 2) := by decide +kernel
theorem dX3_weigh_73 : decode cX3_weigh 73 = .ok (.iaload, 1) := by decide +kernel
theorem dX3_weigh_74 : decode cX3_weigh 74 = .ok (.ifCond .le 7, 3) := by decide +kernel
theorem dX3_weigh_77 : decode cX3_weigh 77 = .ok (.iconst 1, 1) := by decide +kernel
theorem dX3_weigh_78 : decode cX3_weigh 78 = .ok (.goto 4, 3) := by decide +kernel
theorem dX3_weigh_81 : decode cX3_weigh 81 = .ok (.iconst 0, 1) := by decide +kernel
theorem dX3_weigh_82 : decode cX3_weigh 82 = .ok (.iadd, 1) := by decide +kernel
theorem dX3_weigh_83 : decode cX3_weigh 83 = .ok (.putfield 33, 3) := by decide +kernel
theorem dX3_weigh_86 : decode cX3_weigh 86 = .ok (.iinc 5 1, 3) := by decide +kernel
theorem dX3_weigh_89 : decode cX3_weigh 89 = .ok (.goto (-51), 3) := by decide +kernel
theorem dX3_weigh_92 : decode cX3_weigh 92 = .ok (.aload_n 0, 1) := by decide +kernel
theorem dX3_weigh_93 : decode cX3_weigh 93 = .ok (.aload_n 0, 1) := by decide +kernel
theorem dX3_weigh_94 : decode cX3_weigh 94 = .ok (.getfield 9, 3) := by decide +kernel
theorem dX3_weigh_97 : decode cX3_weigh 97 = .ok (.iload_n 2, 1) := by decide +kernel
theorem dX3_weigh_98 : decode cX3_weigh 98 = .ok (.iaload, 1) := by decide +kernel
theorem dX3_weigh_99 : decode cX3_weigh 99 = .ok (.aload_n 0, 1) := by decide +kernel
theorem dX3_weigh_100 : decode cX3_weigh 100 = .ok (.getfield 9, 3) := by decide +kernel
theorem dX3_weigh_103 : decode cX3_weigh 103 = .ok (.iload_n 3, 1) := by decide +kernel
theorem dX3_weigh_104 : decode cX3_weigh 104 = .ok (.iaload, 1) := by decide +kernel
theorem dX3_weigh_105 : decode cX3_weigh 105 = .ok (.iadd, 1) := by decide +kernel
theorem dX3_weigh_106 : decode cX3_weigh 106 = .ok (.iload 4, 2) := by decide +kernel
theorem dX3_weigh_108 : decode cX3_weigh 108 = .ok (.invokestatic 42, 3) := by decide +kernel
theorem dX3_weigh_111 : decode cX3_weigh 111 = .ok (.putfield 46, 3) := by decide +kernel
theorem dX3_weigh_114 : decode cX3_weigh 114 = .ok (.aload_n 0, 1) := by decide +kernel
theorem dX3_weigh_115 : decode cX3_weigh 115 = .ok (.iconst 2, 1) := by decide +kernel
theorem dX3_weigh_116 : decode cX3_weigh 116 = .ok (.aload_n 0, 1) := by decide +kernel
theorem dX3_weigh_117 : decode cX3_weigh 117 = .ok (.getfield 9, 3) := by decide +kernel
theorem dX3_weigh_120 : decode cX3_weigh 120 = .ok (.iload_n 2, 1) := by decide +kernel
theorem dX3_weigh_121 : decode cX3_weigh 121 = .ok (.iaload, 1) := by decide +kernel
theorem dX3_weigh_122 : decode cX3_weigh 122 = .ok (.iload 4, 2) := by decide +kernel
theorem dX3_weigh_124 : decode cX3_weigh 124 = .ok (.invokestatic 42, 3) := by decide +kernel
theorem dX3_weigh_127 : decode cX3_weigh 127 = .ok (.imul, 1) := by decide +kernel
theorem dX3_weigh_128 : decode cX3_weigh 128 = .ok (.aload_n 0, 1) := by decide +kernel
theorem dX3_weigh_129 : decode cX3_weigh 129 = .ok (.getfield 9, 3) := by decide +kernel
theorem dX3_weigh_132 : decode cX3_weigh 132 = .ok (.iload_n 3, 1) := by decide +kernel
theorem dX3_weigh_133 : decode cX3_weigh 133 = .ok (.iaload, 1) := by decide +kernel
theorem dX3_weigh_134 : decode cX3_weigh 134 = .ok (.iload 4, 2) := by decide +kernel
theorem dX3_weigh_136 : decode cX3_weigh 136 = .ok (.invokestatic 42, 3) := by decide +kernel
theorem dX3_weigh_139 : decode cX3_weigh 139 = .ok (.imul, 1) := by decide +kernel
theorem dX3_weigh_140 : decode cX3_weigh 140 = .ok (.putfield 49, 3) := by decide +kernel
theorem dX3_weigh_143 : decode cX3_weigh 143 = .ok (.aload_n 0, 1) := by decide +kernel
theorem dX3_weigh_144 : decode cX3_weigh 144 = .ok (.aload_n 0, 1) := by decide +kernel
theorem dX3_weigh_145 : decode cX3_weigh 145 = .ok (.aload_n 1, 1) := by decide +kernel
theorem dX3_weigh_146 : decode cX3_weigh 146 = .ok (.iload_n 2, 1) := by decide +kernel
theorem dX3_weigh_147 : decode cX3_weigh 147 = .ok (.iload_n 3, 1) := by decide +kernel
theorem dX3_weigh_148 : decode cX3_weigh 148 = .ok (.invokevirtual 52, 3) := by decide +kernel
theorem dX3_weigh_151 : decode cX3_weigh 151 = .ok (.putfield 56, 3) := by decide +kernel
theorem dX3_weigh_154 : decode cX3_weigh 154 = .ok (.return_, 1) := by decide +kernel
theorem dX3_startTerms_0 : decode cX3_startTerms 0 = .ok (.aload_n 0, 1) := by decide +kernel
theorem dX3_startTerms_1 : decode cX3_startTerms 1 = .ok (.getfield 15, 3) := by decide +kernel
theorem dX3_startTerms_4 : decode cX3_startTerms 4 = .ok (.aload_n 0, 1) := by decide +kernel
theorem dX3_startTerms_5 : decode cX3_startTerms 5 = .ok (.getfield 92, 3) := by decide +kernel
theorem dX3_startTerms_8 : decode cX3_startTerms 8 = .ok (.iconst 0, 1) := by decide +kernel
theorem dX3_startTerms_9 : decode cX3_startTerms 9 = .ok (.bastore, 1) := by decide +kernel
theorem dX3_startTerms_10 : decode cX3_startTerms 10 = .ok (.aload_n 0, 1) := by decide +kernel
theorem dX3_startTerms_11 : decode cX3_startTerms 11 = .ok (.getfield 19, 3) := by decide +kernel
theorem dX3_startTerms_14 : decode cX3_startTerms 14 = .ok (.aload_n 0, 1) := by decide +kernel
theorem dX3_startTerms_15 : decode cX3_startTerms 15 = .ok (.getfield 92, 3) := by decide +kernel
theorem dX3_startTerms_18 : decode cX3_startTerms 18 = .ok (.iconst 1, 1) := by decide +kernel
theorem dX3_startTerms_19 : decode cX3_startTerms 19 = .ok (.bastore, 1) := by decide +kernel
theorem dX3_startTerms_20 : decode cX3_startTerms 20 = .ok (.aload_n 0, 1) := by decide +kernel
theorem dX3_startTerms_21 : decode cX3_startTerms 21 = .ok (.getfield 22, 3) := by decide +kernel
theorem dX3_startTerms_24 : decode cX3_startTerms 24 = .ok (.aload_n 0, 1) := by decide +kernel
theorem dX3_startTerms_25 : decode cX3_startTerms 25 = .ok (.getfield 92, 3) := by decide +kernel
theorem dX3_startTerms_28 : decode cX3_startTerms 28 = .ok (.iconst 0, 1) := by decide +kernel
theorem dX3_startTerms_29 : decode cX3_startTerms 29 = .ok (.bastore, 1) := by decide +kernel
theorem dX3_startTerms_30 : decode cX3_startTerms 30 = .ok (.return_, 1) := by decide +kernel
theorem dX3_termsHold_0 : decode cX3_termsHold 0 = .ok (.aload_n 0, 1) := by decide +kernel
theorem dX3_termsHold_1 : decode cX3_termsHold 1 = .ok (.getfield 15, 3) := by decide +kernel
theorem dX3_termsHold_4 : decode cX3_termsHold 4 = .ok (.aload_n 0, 1) := by decide +kernel
theorem dX3_termsHold_5 : decode cX3_termsHold 5 = .ok (.getfield 92, 3) := by decide +kernel
theorem dX3_termsHold_8 : decode cX3_termsHold 8 = .ok (.baload, 1) := by decide +kernel
theorem dX3_termsHold_9 : decode cX3_termsHold 9 = .ok (.ifCond .ne 15, 3) := by decide +kernel
theorem dX3_termsHold_12 : decode cX3_termsHold 12 = .ok (.aload_n 0, 1) := by decide +kernel
theorem dX3_termsHold_13 : decode cX3_termsHold 13 = .ok (.getfield 19, 3) := by decide +kernel
theorem dX3_termsHold_16 : decode cX3_termsHold 16 = .ok (.aload_n 0, 1) := by decide +kernel
theorem dX3_termsHold_17 : decode cX3_termsHold 17 = .ok (.getfield 92, 3) := by decide +kernel
theorem dX3_termsHold_20 : decode cX3_termsHold 20 = .ok (.baload, 1) := by decide +kernel
theorem dX3_termsHold_21 : decode cX3_termsHold 21 = .ok (.ifCond .eq 7, 3) := by decide +kernel
theorem dX3_termsHold_24 : decode cX3_termsHold 24 = .ok (.iconst 1, 1) := by decide +kernel
theorem dX3_termsHold_25 : decode cX3_termsHold 25 = .ok (.goto 4, 3) := by decide +kernel
theorem dX3_termsHold_28 : decode cX3_termsHold 28 = .ok (.iconst 0, 1) := by decide +kernel
theorem dX3_termsHold_29 : decode cX3_termsHold 29 = .ok (.ireturn, 1) := by decide +kernel
theorem dX3_takeFactor_0 : decode cX3_takeFactor 0 = .ok (.aload_n 0, 1) := by decide +kernel
theorem dX3_takeFactor_1 : decode cX3_takeFactor 1 = .ok (.getfield 19, 3) := by decide +kernel
theorem dX3_takeFactor_4 : decode cX3_takeFactor 4 = .ok (.aload_n 0, 1) := by decide +kernel
theorem dX3_takeFactor_5 : decode cX3_takeFactor 5 = .ok (.getfield 92, 3) := by decide +kernel
theorem dX3_takeFactor_8 : decode cX3_takeFactor 8 = .ok (.aload_n 0, 1) := by decide +kernel
theorem dX3_takeFactor_9 : decode cX3_takeFactor 9 = .ok (.getfield 19, 3) := by decide +kernel
theorem dX3_takeFactor_12 : decode cX3_takeFactor 12 = .ok (.aload_n 0, 1) := by decide +kernel
theorem dX3_takeFactor_13 : decode cX3_takeFactor 13 = .ok (.getfield 92, 3) := by decide +kernel
theorem dX3_takeFactor_16 : decode cX3_takeFactor 16 = .ok (.baload, 1) := by decide +kernel
theorem dX3_takeFactor_17 : decode cX3_takeFactor 17 = .ok (.ifCond .eq 20, 3) := by decide +kernel
theorem dX3_takeFactor_20 : decode cX3_takeFactor 20 = .ok (.iload_n 1, 1) := by decide +kernel
theorem dX3_takeFactor_21 : decode cX3_takeFactor 21 = .ok (.aload_n 0, 1) := by decide +kernel
theorem dX3_takeFactor_22 : decode cX3_takeFactor 22 = .ok (.getfield 22, 3) := by decide +kernel
theorem dX3_takeFactor_25 : decode cX3_takeFactor 25 = .ok (.aload_n 0, 1) := by decide +kernel
theorem dX3_takeFactor_26 : decode cX3_takeFactor 26 = .ok (.getfield 92, 3) := by decide +kernel
theorem dX3_takeFactor_29 : decode cX3_takeFactor 29 = .ok (.baload, 1) := by decide +kernel
theorem dX3_takeFactor_30 : decode cX3_takeFactor 30 = .ok (.if_icmp .eq 7, 3) := by decide +kernel
theorem dX3_takeFactor_33 : decode cX3_takeFactor 33 = .ok (.iconst 1, 1) := by decide +kernel
theorem dX3_takeFactor_34 : decode cX3_takeFactor 34 = .ok (.goto 4, 3) := by decide +kernel
theorem dX3_takeFactor_37 : decode cX3_takeFactor 37 = .ok (.iconst 0, 1) := by decide +kernel
theorem dX3_takeFactor_38 : decode cX3_takeFactor 38 = .ok (.bastore, 1) := by decide +kernel
theorem dX3_takeFactor_39 : decode cX3_takeFactor 39 = .ok (.aload_n 0, 1) := by decide +kernel
theorem dX3_takeFactor_40 : decode cX3_takeFactor 40 = .ok (.getfield 22, 3) := by decide +kernel
theorem dX3_takeFactor_43 : decode cX3_takeFactor 43 = .ok (.aload_n 0, 1) := by decide +kernel
theorem dX3_takeFactor_44 : decode cX3_takeFactor 44 = .ok (.getfield 92, 3) := by decide +kernel
theorem dX3_takeFactor_47 : decode cX3_takeFactor 47 = .ok (.iconst 0, 1) := by decide +kernel
theorem dX3_takeFactor_48 : decode cX3_takeFactor 48 = .ok (.bastore, 1) := by decide +kernel
theorem dX3_takeFactor_49 : decode cX3_takeFactor 49 = .ok (.return_, 1) := by decide +kernel
theorem dX3_comparisonHolds_0 : decode cX3_comparisonHolds 0 = .ok (.iconst 0, 1) := by decide +kernel
theorem dX3_comparisonHolds_1 : decode cX3_comparisonHolds 1 = .ok (.istore_n 3, 1) := by decide +kernel
theorem dX3_comparisonHolds_2 : decode cX3_comparisonHolds 2 = .ok (.iload_n 2, 1) := by decide +kernel
theorem dX3_comparisonHolds_3 : decode cX3_comparisonHolds 3 = .ok (.iconst 1, 1) := by decide +kernel
theorem dX3_comparisonHolds_4 : decode cX3_comparisonHolds 4 = .ok (.iadd, 1) := by decide +kernel
theorem dX3_comparisonHolds_5 : decode cX3_comparisonHolds 5 = .ok (.istore 4, 2) := by decide +kernel
theorem dX3_comparisonHolds_7 : decode cX3_comparisonHolds 7 = .ok (.iload 4, 2) := by decide +kernel
theorem dX3_comparisonHolds_9 : decode cX3_comparisonHolds 9 = .ok (.aload_n 1, 1) := by decide +kernel
theorem dX3_comparisonHolds_10 : decode cX3_comparisonHolds 10 = .ok (.getfield 98, 3) := by decide +kernel
theorem dX3_comparisonHolds_13 : decode cX3_comparisonHolds 13 = .ok (.if_icmp .ge 36, 3) := by decide +kernel
theorem dX3_comparisonHolds_16 : decode cX3_comparisonHolds 16 = .ok (.aload_n 1, 1) := by decide +kernel
theorem dX3_comparisonHolds_17 : decode cX3_comparisonHolds 17 = .ok (.iload 4, 2) := by decide +kernel
theorem dX3_comparisonHolds_19 : decode cX3_comparisonHolds 19 = .ok (.invokevirtual 111, 3) := by decide +kernel
theorem dX3_comparisonHolds_22 : decode cX3_comparisonHolds 22 = .ok (.invokestatic 123, 3) := by decide +kernel
theorem dX3_comparisonHolds_25 : decode cX3_comparisonHolds 25 = .ok (.ifCond .eq 24, 3) := by decide +kernel
theorem dX3_comparisonHolds_28 : decode cX3_comparisonHolds 28 = .ok (.bipush 10, 2) := by decide +kernel
theorem dX3_comparisonHolds_30 : decode cX3_comparisonHolds 30 = .ok (.iload_n 3, 1) := by decide +kernel
theorem dX3_comparisonHolds_31 : decode cX3_comparisonHolds 31 = .ok (.imul, 1) := by decide +kernel
theorem dX3_comparisonHolds_32 : decode cX3_comparisonHolds 32 = .ok (.aload_n 1, 1) := by decide +kernel
theorem dX3_comparisonHolds_33 : decode cX3_comparisonHolds 33 = .ok (.iload 4, 2) := by decide +kernel
theorem dX3_comparisonHolds_35 : decode cX3_comparisonHolds 35 = .ok (.invokevirtual 111, 3) := by decide +kernel
theorem dX3_comparisonHolds_38 : decode cX3_comparisonHolds 38 = .ok (.iadd, 1) := by decide +kernel
theorem dX3_comparisonHolds_39 : decode cX3_comparisonHolds 39 = .ok (.bipush 48, 2) := by decide +kernel
theorem dX3_comparisonHolds_41 : decode cX3_comparisonHolds 41 = .ok (.isub, 1) := by decide +kernel
theorem dX3_comparisonHolds_42 : decode cX3_comparisonHolds 42 = .ok (.istore_n 3, 1) := by decide +kernel
theorem dX3_comparisonHolds_43 : decode cX3_comparisonHolds 43 = .ok (.iinc 4 1, 3) := by decide +kernel
theorem dX3_comparisonHolds_46 : decode cX3_comparisonHolds 46 = .ok (.goto (-39), 3) := by decide +kernel
theorem dX3_comparisonHolds_49 : decode cX3_comparisonHolds 49 = .ok (.aload_n 1, 1) := by decide +kernel
theorem dX3_comparisonHolds_50 : decode cX3_comparisonHolds 50 = .ok (.iload_n 2, 1) := by decide +kernel
theorem dX3_comparisonHolds_51 : decode cX3_comparisonHolds 51 = .ok (.invokevirtual 111, 3) := by decide +kernel
theorem dX3_comparisonHolds_54 : decode cX3_comparisonHolds 54 = .ok (.lookupswitch 48 #[(60, 26), (61, 37)], 26) := by decide +kernel
theorem dX3_comparisonHolds_80 : decode cX3_comparisonHolds 80 = .ok (.iload_n 0, 1) := by decide +kernel
theorem dX3_comparisonHolds_81 : decode cX3_comparisonHolds 81 = .ok (.iload_n 3, 1) := by decide +kernel
theorem dX3_comparisonHolds_82 : decode cX3_comparisonHolds 82 = .ok (.if_icmp .ge 7, 3) := by decide +kernel
theorem dX3_comparisonHolds_85 : decode cX3_comparisonHolds 85 = .ok (.iconst 1, 1) := by decide +kernel
theorem dX3_comparisonHolds_86 : decode cX3_comparisonHolds 86 = .ok (.goto 4, 3) := by decide +kernel
theorem dX3_comparisonHolds_89 : decode cX3_comparisonHolds 89 = .ok (.iconst 0, 1) := by decide +kernel
theorem dX3_comparisonHolds_90 : decode cX3_comparisonHolds 90 = .ok (.ireturn, 1) := by decide +kernel
theorem dX3_comparisonHolds_91 : decode cX3_comparisonHolds 91 = .ok (.iload_n 0, 1) := by decide +kernel
theorem dX3_comparisonHolds_92 : decode cX3_comparisonHolds 92 = .ok (.iload_n 3, 1) := by decide +kernel
theorem dX3_comparisonHolds_93 : decode cX3_comparisonHolds 93 = .ok (.if_icmp .ne 7, 3) := by decide +kernel
theorem dX3_comparisonHolds_96 : decode cX3_comparisonHolds 96 = .ok (.iconst 1, 1) := by decide +kernel
theorem dX3_comparisonHolds_97 : decode cX3_comparisonHolds 97 = .ok (.goto 4, 3) := by decide +kernel
theorem dX3_comparisonHolds_100 : decode cX3_comparisonHolds 100 = .ok (.iconst 0, 1) := by decide +kernel
theorem dX3_comparisonHolds_101 : decode cX3_comparisonHolds 101 = .ok (.ireturn, 1) := by decide +kernel
theorem dX3_comparisonHolds_102 : decode cX3_comparisonHolds 102 = .ok (.iload_n 0, 1) := by decide +kernel
theorem dX3_comparisonHolds_103 : decode cX3_comparisonHolds 103 = .ok (.iload_n 3, 1) := by decide +kernel
theorem dX3_comparisonHolds_104 : decode cX3_comparisonHolds 104 = .ok (.if_icmp .le 7, 3) := by decide +kernel
theorem dX3_comparisonHolds_107 : decode cX3_comparisonHolds 107 = .ok (.iconst 1, 1) := by decide +kernel
theorem dX3_comparisonHolds_108 : decode cX3_comparisonHolds 108 = .ok (.goto 4, 3) := by decide +kernel
theorem dX3_comparisonHolds_111 : decode cX3_comparisonHolds 111 = .ok (.iconst 0, 1) := by decide +kernel
theorem dX3_comparisonHolds_112 : decode cX3_comparisonHolds 112 = .ok (.ireturn, 1) := by decide +kernel
theorem dX3_readLetter_0 : decode cX3_readLetter 0 = .ok (.aload_n 1, 1) := by decide +kernel
theorem dX3_readLetter_1 : decode cX3_readLetter 1 = .ok (.iload_n 2, 1) := by decide +kernel
theorem dX3_readLetter_2 : decode cX3_readLetter 2 = .ok (.invokevirtual 111, 3) := by decide +kernel
theorem dX3_readLetter_5 : decode cX3_readLetter 5 = .ok (.lookupswitch 283 #[(33, 75), (40, 155), (41, 181), (100, 265), (111, 229), (114, 247), (115, 211), (124, 104)], 75) := by decide +kernel
theorem dX3_readLetter_80 : decode cX3_readLetter 80 = .ok (.aload_n 0, 1) := by decide +kernel
theorem dX3_readLetter_81 : decode cX3_readLetter 81 = .ok (.getfield 22, 3) := by decide +kernel
theorem dX3_readLetter_84 : decode cX3_readLetter 84 = .ok (.aload_n 0, 1) := by decide +kernel
theorem dX3_readLetter_85 : decode cX3_readLetter 85 = .ok (.getfield 92, 3) := by decide +kernel
theorem dX3_readLetter_88 : decode cX3_readLetter 88 = .ok (.aload_n 0, 1) := by decide +kernel
theorem dX3_readLetter_89 : decode cX3_readLetter 89 = .ok (.getfield 22, 3) := by decide +kernel
theorem dX3_readLetter_92 : decode cX3_readLetter 92 = .ok (.aload_n 0, 1) := by decide +kernel
theorem dX3_readLetter_93 : decode cX3_readLetter 93 = .ok (.getfield 92, 3) := by decide +kernel
theorem dX3_readLetter_96 : decode cX3_readLetter 96 = .ok (.baload, 1) := by decide +kernel
theorem dX3_readLetter_97 : decode cX3_readLetter 97 = .ok (.ifCond .ne 7, 3) := by decide +kernel
theorem dX3_readLetter_100 : decode cX3_readLetter 100 = .ok (.iconst 1, 1) := by decide +kernel
theorem dX3_readLetter_101 : decode cX3_readLetter 101 = .ok (.goto 4, 3) := by decide +kernel
theorem dX3_readLetter_104 : decode cX3_readLetter 104 = .ok (.iconst 0, 1) := by decide +kernel
theorem dX3_readLetter_105 : decode cX3_readLetter 105 = .ok (.bastore, 1) := by decide +kernel
theorem dX3_readLetter_106 : decode cX3_readLetter 106 = .ok (.goto 182, 3) := by decide +kernel
theorem dX3_readLetter_109 : decode cX3_readLetter 109 = .ok (.aload_n 0, 1) := by decide +kernel
theorem dX3_readLetter_110 : decode cX3_readLetter 110 = .ok (.getfield 15, 3) := by decide +kernel
theorem dX3_readLetter_113 : decode cX3_readLetter 113 = .ok (.aload_n 0, 1) := by decide +kernel
theorem dX3_readLetter_114 : decode cX3_readLetter 114 = .ok (.getfield 92, 3) := by decide +kernel
theorem dX3_readLetter_117 : decode cX3_readLetter 117 = .ok (.aload_n 0, 1) := by decide +kernel
theorem dX3_readLetter_118 : decode cX3_readLetter 118 = .ok (.getfield 15, 3) := by decide +kernel
theorem dX3_readLetter_121 : decode cX3_readLetter 121 = .ok (.aload_n 0, 1) := by decide +kernel
theorem dX3_readLetter_122 : decode cX3_readLetter 122 = .ok (.getfield 92, 3) := by decide +kernel
theorem dX3_readLetter_125 : decode cX3_readLetter 125 = .ok (.baload, 1) := by decide +kernel
theorem dX3_readLetter_126 : decode cX3_readLetter 126 = .ok (.ifCond .ne 15, 3) := by decide +kernel
theorem dX3_readLetter_129 : decode cX3_readLetter 129 = .ok (.aload_n 0, 1) := by decide +kernel
theorem dX3_readLetter_130 : decode cX3_readLetter 130 = .ok (.getfield 19, 3) := by decide +kernel
theorem dX3_readLetter_133 : decode cX3_readLetter 133 = .ok (.aload_n 0, 1) := by decide +kernel
theorem dX3_readLetter_134 : decode cX3_readLetter 134 = .ok (.getfield 92, 3) := by decide +kernel
theorem dX3_readLetter_137 : decode cX3_readLetter 137 = .ok (.baload, 1) := by decide +kernel
theorem dX3_readLetter_138 : decode cX3_readLetter 138 = .ok (.ifCond .eq 7, 3) := by decide +kernel
theorem dX3_readLetter_141 : decode cX3_readLetter 141 = .ok (.iconst 1, 1) := by decide +kernel
theorem dX3_readLetter_142 : decode cX3_readLetter 142 = .ok (.goto 4, 3) := by decide +kernel
theorem dX3_readLetter_145 : decode cX3_readLetter 145 = .ok (.iconst 0, 1) := by decide +kernel
theorem dX3_readLetter_146 : decode cX3_readLetter 146 = .ok (.bastore, 1) := by decide +kernel
theorem dX3_readLetter_147 : decode cX3_readLetter 147 = .ok (.aload_n 0, 1) := by decide +kernel
theorem dX3_readLetter_148 : decode cX3_readLetter 148 = .ok (.getfield 19, 3) := by decide +kernel
theorem dX3_readLetter_151 : decode cX3_readLetter 151 = .ok (.aload_n 0, 1) := by decide +kernel
theorem dX3_readLetter_152 : decode cX3_readLetter 152 = .ok (.getfield 92, 3) := by decide +kernel
theorem dX3_readLetter_155 : decode cX3_readLetter 155 = .ok (.iconst 1, 1) := by decide +kernel
theorem dX3_readLetter_156 : decode cX3_readLetter 156 = .ok (.bastore, 1) := by decide +kernel
theorem dX3_readLetter_157 : decode cX3_readLetter 157 = .ok (.goto 131, 3) := by decide +kernel
theorem dX3_readLetter_160 : decode cX3_readLetter 160 = .ok (.aload_n 0, 1) := by decide +kernel
theorem dX3_readLetter_161 : decode cX3_readLetter 161 = .ok (.getfield 92, 3) := by decide +kernel
theorem dX3_readLetter_164 : decode cX3_readLetter 164 = .ok (.bipush 50, 2) := by decide +kernel
theorem dX3_readLetter_166 : decode cX3_readLetter 166 = .ok (.if_icmp .ge 122, 3) := by decide +kernel
theorem dX3_readLetter_169 : decode cX3_readLetter 169 = .ok (.aload_n 0, 1) := by decide +kernel
theorem dX3_readLetter_170 : decode cX3_readLetter 170 = .ok (.dup, 1) := by decide +kernel
theorem dX3_readLetter_171 : decode cX3_readLetter 171 = .ok (.getfield 92, 3) := by decide +kernel
theorem dX3_readLetter_174 : decode cX3_readLetter 174 = .ok (.iconst 1, 1) := by decide +kernel
theorem dX3_readLetter_175 : decode cX3_readLetter 175 = .ok (.iadd, 1) := by decide +kernel
theorem dX3_readLetter_176 : decode cX3_readLetter 176 = .ok (.putfield 92, 3) := by decide +kernel
theorem dX3_readLetter_179 : decode cX3_readLetter 179 = .ok (.aload_n 0, 1) := by decide +kernel
theorem dX3_readLetter_180 : decode cX3_readLetter 180 = .ok (.invokevirtual 95, 3) := by decide +kernel
theorem dX3_readLetter_183 : decode cX3_readLetter 183 = .ok (.goto 105, 3) := by decide +kernel
theorem dX3_readLetter_186 : decode cX3_readLetter 186 = .ok (.aload_n 0, 1) := by decide +kernel
theorem dX3_readLetter_187 : decode cX3_readLetter 187 = .ok (.invokevirtual 107, 3) := by decide +kernel
theorem dX3_readLetter_190 : decode cX3_readLetter 190 = .ok (.istore_n 3, 1) := by decide +kernel
theorem dX3_readLetter_191 : decode cX3_readLetter 191 = .ok (.aload_n 0, 1) := by decide +kernel
theorem dX3_readLetter_192 : decode cX3_readLetter 192 = .ok (.getfield 92, 3) := by decide +kernel
theorem dX3_readLetter_195 : decode cX3_readLetter 195 = .ok (.ifCond .le 93, 3) := by decide +kernel
theorem dX3_readLetter_198 : decode cX3_readLetter 198 = .ok (.aload_n 0, 1) := by decide +kernel
theorem dX3_readLetter_199 : decode cX3_readLetter 199 = .ok (.dup, 1) := by decide +kernel
theorem dX3_readLetter_200 : decode cX3_readLetter 200 = .ok (.getfield 92, 3) := by decide +kernel
theorem dX3_readLetter_203 : decode cX3_readLetter 203 = .ok (.iconst 1, 1) := by decide +kernel
theorem dX3_readLetter_204 : decode cX3_readLetter 204 = .ok (.isub, 1) := by decide +kernel
theorem dX3_readLetter_205 : decode cX3_readLetter 205 = .ok (.putfield 92, 3) := by decide +kernel
theorem dX3_readLetter_208 : decode cX3_readLetter 208 = .ok (.aload_n 0, 1) := by decide +kernel
theorem dX3_readLetter_209 : decode cX3_readLetter 209 = .ok (.iload_n 3, 1) := by decide +kernel
theorem dX3_readLetter_210 : decode cX3_readLetter 210 = .ok (.invokevirtual 115, 3) := by decide +kernel
theorem dX3_readLetter_213 : decode cX3_readLetter 213 = .ok (.goto 75, 3) := by decide +kernel
theorem dX3_readLetter_216 : decode cX3_readLetter 216 = .ok (.aload_n 0, 1) := by decide +kernel
theorem dX3_readLetter_217 : decode cX3_readLetter 217 = .ok (.aload_n 0, 1) := by decide +kernel
theorem dX3_readLetter_218 : decode cX3_readLetter 218 = .ok (.getfield 46, 3) := by decide +kernel
theorem dX3_readLetter_221 : decode cX3_readLetter 221 = .ok (.aload_n 1, 1) := by decide +kernel
theorem dX3_readLetter_222 : decode cX3_readLetter 222 = .ok (.iload_n 2, 1) := by decide +kernel
theorem dX3_readLetter_223 : decode cX3_readLetter 223 = .ok (.iconst 1, 1) := by decide +kernel
theorem dX3_readLetter_224 : decode cX3_readLetter 224 = .ok (.iadd, 1) := by decide +kernel
theorem dX3_readLetter_225 : decode cX3_readLetter 225 = .ok (.invokestatic 119, 3) := by decide +kernel
theorem dX3_readLetter_228 : decode cX3_readLetter 228 = .ok (.invokevirtual 115, 3) := by decide +kernel
theorem dX3_readLetter_231 : decode cX3_readLetter 231 = .ok (.goto 57, 3) := by decide +kernel
theorem dX3_readLetter_234 : decode cX3_readLetter 234 = .ok (.aload_n 0, 1) := by decide +kernel
theorem dX3_readLetter_235 : decode cX3_readLetter 235 = .ok (.aload_n 0, 1) := by decide +kernel
theorem dX3_readLetter_236 : decode cX3_readLetter 236 = .ok (.getfield 33, 3) := by decide +kernel
theorem dX3_readLetter_239 : decode cX3_readLetter 239 = .ok (.aload_n 1, 1) := by decide +kernel
theorem dX3_readLetter_240 : decode cX3_readLetter 240 = .ok (.iload_n 2, 1) := by decide +kernel
theorem dX3_readLetter_241 : decode cX3_readLetter 241 = .ok (.iconst 1, 1) := by decide +kernel
theorem dX3_readLetter_242 : decode cX3_readLetter 242 = .ok (.iadd, 1) := by decide +kernel
theorem dX3_readLetter_243 : decode cX3_readLetter 243 = .ok (.invokestatic 119, 3) := by decide +kernel
theorem dX3_readLetter_246 : decode cX3_readLetter 246 = .ok (.invokevirtual 115, 3) := by decide +kernel
theorem dX3_readLetter_249 : decode cX3_readLetter 249 = .ok (.goto 39, 3) := by decide +kernel
theorem dX3_readLetter_252 : decode cX3_readLetter 252 = .ok (.aload_n 0, 1) := by decide +kernel
theorem dX3_readLetter_253 : decode cX3_readLetter 253 = .ok (.aload_n 0, 1) := by decide +kernel
theorem dX3_readLetter_254 : decode cX3_readLetter 254 = .ok (.getfield 49, 3) := by decide +kernel
theorem dX3_readLetter_257 : decode cX3_readLetter 257 = .ok (.aload_n 1, 1) := by decide +kernel
theorem dX3_readLetter_258 : decode cX3_readLetter 258 = .ok (.iload_n 2, 1) := by decide +kernel
theorem dX3_readLetter_259 : decode cX3_readLetter 259 = .ok (.iconst 1, 1) := by decide +kernel
theorem dX3_readLetter_260 : decode cX3_readLetter 260 = .ok (.iadd, 1) := by decide +kernel
theorem dX3_readLetter_261 : decode cX3_readLetter 261 = .ok (.invokestatic 119, 3) := by decide +kernel
theorem dX3_readLetter_264 : decode cX3_readLetter 264 = .ok (.invokevirtual 115, 3) := by decide +kernel
theorem dX3_readLetter_267 : decode cX3_readLetter 267 = .ok (.goto 21, 3) := by decide +kernel
theorem dX3_readLetter_270 : decode cX3_readLetter 270 = .ok (.aload_n 0, 1) := by decide +kernel
theorem dX3_readLetter_271 : decode cX3_readLetter 271 = .ok (.aload_n 0, 1) := by decide +kernel
theorem dX3_readLetter_272 : decode cX3_readLetter 272 = .ok (.getfield 56, 3) := by decide +kernel
theorem dX3_readLetter_275 : decode cX3_readLetter 275 = .ok (.aload_n 1, 1) := by decide +kernel
theorem dX3_readLetter_276 : decode cX3_readLetter 276 = .ok (.iload_n 2, 1) := by decide +kernel
theorem dX3_readLetter_277 : decode cX3_readLetter 277 = .ok (.iconst 1, 1) := by decide +kernel
theorem dX3_readLetter_278 : decode cX3_readLetter 278 = .ok (.iadd, 1) := by decide +kernel
theorem dX3_readLetter_279 : decode cX3_readLetter 279 = .ok (.invokestatic 119, 3) := by decide +kernel
theorem dX3_readLetter_282 : decode cX3_readLetter 282 = .ok (.invokevirtual 115, 3) := by decide +kernel
theorem dX3_readLetter_285 : decode cX3_readLetter 285 = .ok (.goto 3, 3) := by decide +kernel
theorem dX3_readLetter_288 : decode cX3_readLetter 288 = .ok (.return_, 1) := by decide +kernel
theorem dX3_holds_0 : decode cX3_holds 0 = .ok (.aload_n 0, 1) := by decide +kernel
theorem dX3_holds_1 : decode cX3_holds 1 = .ok (.iconst 0, 1) := by decide +kernel
theorem dX3_holds_2 : decode cX3_holds 2 = .ok (.putfield 92, 3) := by decide +kernel
theorem dX3_holds_5 : decode cX3_holds 5 = .ok (.aload_n 0, 1) := by decide +kernel
theorem dX3_holds_6 : decode cX3_holds 6 = .ok (.invokevirtual 95, 3) := by decide +kernel
theorem dX3_holds_9 : decode cX3_holds 9 = .ok (.iconst 0, 1) := by decide +kernel
theorem dX3_holds_10 : decode cX3_holds 10 = .ok (.istore_n 2, 1) := by decide +kernel
theorem dX3_holds_11 : decode cX3_holds 11 = .ok (.iload_n 2, 1) := by decide +kernel
theorem dX3_holds_12 : decode cX3_holds 12 = .ok (.aload_n 1, 1) := by decide +kernel
theorem dX3_holds_13 : decode cX3_holds 13 = .ok (.getfield 98, 3) := by decide +kernel
theorem dX3_holds_16 : decode cX3_holds 16 = .ok (.if_icmp .ge 15, 3) := by decide +kernel
theorem dX3_holds_19 : decode cX3_holds 19 = .ok (.aload_n 0, 1) := by decide +kernel
theorem dX3_holds_20 : decode cX3_holds 20 = .ok (.aload_n 1, 1) := by decide +kernel
theorem dX3_holds_21 : decode cX3_holds 21 = .ok (.iload_n 2, 1) := by decide +kernel
theorem dX3_holds_22 : decode cX3_holds 22 = .ok (.invokevirtual 103, 3) := by decide +kernel
theorem dX3_holds_25 : decode cX3_holds 25 = .ok (.iinc 2 1, 3) := by decide +kernel
theorem dX3_holds_28 : decode cX3_holds 28 = .ok (.goto (-17), 3) := by decide +kernel
theorem dX3_holds_31 : decode cX3_holds 31 = .ok (.aload_n 0, 1) := by decide +kernel
theorem dX3_holds_32 : decode cX3_holds 32 = .ok (.invokevirtual 107, 3) := by decide +kernel
theorem dX3_holds_35 : decode cX3_holds 35 = .ok (.ireturn, 1) := by decide +kernel
theorem dX4_setOf_0 : decode cX4_setOf 0 = .ok (.iconst 0, 1) := by decide +kernel
theorem dX4_setOf_1 : decode cX4_setOf 1 = .ok (.istore_n 2, 1) := by decide +kernel
theorem dX4_setOf_2 : decode cX4_setOf 2 = .ok (.iconst 0, 1) := by decide +kernel
theorem dX4_setOf_3 : decode cX4_setOf 3 = .ok (.istore_n 3, 1) := by decide +kernel
theorem dX4_setOf_4 : decode cX4_setOf 4 = .ok (.iload_n 3, 1) := by decide +kernel
theorem dX4_setOf_5 : decode cX4_setOf 5 = .ok (.aload_n 0, 1) := by decide +kernel
theorem dX4_setOf_6 : decode cX4_setOf 6 = .ok (.getfield 22, 3) := by decide +kernel
theorem dX4_setOf_9 : decode cX4_setOf 9 = .ok (.getfield 26, 3) := by decide +kernel
theorem dX4_setOf_12 : decode cX4_setOf 12 = .ok (.if_icmp .ge 25, 3) := by decide +kernel
theorem dX4_setOf_15 : decode cX4_setOf 15 = .ok (.aload_n 0, 1) := by decide +kernel
theorem dX4_setOf_16 : decode cX4_setOf 16 = .ok (.getfield 15, 3) := by decide +kernel
theorem dX4_setOf_19 : decode cX4_setOf 19 = .ok (.iload_n 3, 1) := by decide +kernel
theorem dX4_setOf_20 : decode cX4_setOf 20 = .ok (.iaload, 1) := by decide +kernel
theorem dX4_setOf_21 : decode cX4_setOf 21 = .ok (.iload_n 1, 1) := by decide +kernel
theorem dX4_setOf_22 : decode cX4_setOf 22 = .ok (.if_icmp .ne 9, 3) := by decide +kernel
theorem dX4_setOf_25 : decode cX4_setOf 25 = .ok (.iload_n 2, 1) := by decide +kernel
theorem dX4_setOf_26 : decode cX4_setOf 26 = .ok (.iconst 1, 1) := by decide +kernel
theorem dX4_setOf_27 : decode cX4_setOf 27 = .ok (.iload_n 3, 1) := by decide +kernel
theorem dX4_setOf_28 : decode cX4_setOf 28 = .ok (.ishl, 1) := by decide +kernel
theorem dX4_setOf_29 : decode cX4_setOf 29 = .ok (.ior, 1) := by decide +kernel
theorem dX4_setOf_30 : decode cX4_setOf 30 = .ok (.istore_n 2, 1) := by decide +kernel
theorem dX4_setOf_31 : decode cX4_setOf 31 = .ok (.iinc 3 1, 3) := by decide +kernel
theorem dX4_setOf_34 : decode cX4_setOf 34 = .ok (.goto (-30), 3) := by decide +kernel
theorem dX4_setOf_37 : decode cX4_setOf 37 = .ok (.iload_n 2, 1) := by decide +kernel
theorem dX4_setOf_38 : decode cX4_setOf 38 = .ok (.ireturn, 1) := by decide +kernel
theorem dJ6_bitCount_0f7a4_0 : decode cJ6_bitCount_0f7a4 0 = .ok (.iload_n 0, 1) := by decide +kernel
theorem dJ6_bitCount_0f7a4_1 : decode cJ6_bitCount_0f7a4 1 = .ok (.iload_n 0, 1) := by decide +kernel
theorem dJ6_bitCount_0f7a4_2 : decode cJ6_bitCount_0f7a4 2 = .ok (.iconst 1, 1) := by decide +kernel
theorem dJ6_bitCount_0f7a4_3 : decode cJ6_bitCount_0f7a4 3 = .ok (.iushr, 1) := by decide +kernel
theorem dJ6_bitCount_0f7a4_4 : decode cJ6_bitCount_0f7a4 4 = .ok (.ldc_w 265, 3) := by decide +kernel
theorem dJ6_bitCount_0f7a4_7 : decode cJ6_bitCount_0f7a4 7 = .ok (.iand, 1) := by decide +kernel
theorem dJ6_bitCount_0f7a4_8 : decode cJ6_bitCount_0f7a4 8 = .ok (.isub, 1) := by decide +kernel
theorem dJ6_bitCount_0f7a4_9 : decode cJ6_bitCount_0f7a4 9 = .ok (.istore_n 0, 1) := by decide +kernel
theorem dJ6_bitCount_0f7a4_10 : decode cJ6_bitCount_0f7a4 10 = .ok (.iload_n 0, 1) := by decide +kernel
theorem dJ6_bitCount_0f7a4_11 : decode cJ6_bitCount_0f7a4 11 = .ok (.ldc_w 266, 3) := by decide +kernel
theorem dJ6_bitCount_0f7a4_14 : decode cJ6_bitCount_0f7a4 14 = .ok (.iand, 1) := by decide +kernel
theorem dJ6_bitCount_0f7a4_15 : decode cJ6_bitCount_0f7a4 15 = .ok (.iload_n 0, 1) := by decide +kernel
theorem dJ6_bitCount_0f7a4_16 : decode cJ6_bitCount_0f7a4 16 = .ok (.iconst 2, 1) := by decide +kernel
theorem dJ6_bitCount_0f7a4_17 : decode cJ6_bitCount_0f7a4 17 = .ok (.iushr, 1) := by decide +kernel
theorem dJ6_bitCount_0f7a4_18 : decode cJ6_bitCount_0f7a4 18 = .ok (.ldc_w 266, 3) := by decide +kernel
theorem dJ6_bitCount_0f7a4_21 : decode cJ6_bitCount_0f7a4 21 = .ok (.iand, 1) := by decide +kernel
theorem dJ6_bitCount_0f7a4_22 : decode cJ6_bitCount_0f7a4 22 = .ok (.iadd, 1) := by decide +kernel
theorem dJ6_bitCount_0f7a4_23 : decode cJ6_bitCount_0f7a4 23 = .ok (.istore_n 0, 1) := by decide +kernel
theorem dJ6_bitCount_0f7a4_24 : decode cJ6_bitCount_0f7a4 24 = .ok (.iload_n 0, 1) := by decide +kernel
theorem dJ6_bitCount_0f7a4_25 : decode cJ6_bitCount_0f7a4 25 = .ok (.iload_n 0, 1) := by decide +kernel
theorem dJ6_bitCount_0f7a4_26 : decode cJ6_bitCount_0f7a4 26 = .ok (.iconst 4, 1) := by decide +kernel
theorem dJ6_bitCount_0f7a4_27 : decode cJ6_bitCount_0f7a4 27 = .ok (.iushr, 1) := by decide +kernel
theorem dJ6_bitCount_0f7a4_28 : decode cJ6_bitCount_0f7a4 28 = .ok (.iadd, 1) := by decide +kernel
theorem dJ6_bitCount_0f7a4_29 : decode cJ6_bitCount_0f7a4 29 = .ok (.ldc_w 267, 3) := by decide +kernel
theorem dJ6_bitCount_0f7a4_32 : decode cJ6_bitCount_0f7a4 32 = .ok (.iand, 1) := by decide +kernel
theorem dJ6_bitCount_0f7a4_33 : decode cJ6_bitCount_0f7a4 33 = .ok (.istore_n 0, 1) := by decide +kernel
theorem dJ6_bitCount_0f7a4_34 : decode cJ6_bitCount_0f7a4 34 = .ok (.iload_n 0, 1) := by decide +kernel
theorem dJ6_bitCount_0f7a4_35 : decode cJ6_bitCount_0f7a4 35 = .ok (.iload_n 0, 1) := by decide +kernel
theorem dJ6_bitCount_0f7a4_36 : decode cJ6_bitCount_0f7a4 36 = .ok (.bipush 8, 2) := by decide +kernel
theorem dJ6_bitCount_0f7a4_38 : decode cJ6_bitCount_0f7a4 38 = .ok (.iushr, 1) := by decide +kernel
theorem dJ6_bitCount_0f7a4_39 : decode cJ6_bitCount_0f7a4 39 = .ok (.iadd, 1) := by decide +kernel
theorem dJ6_bitCount_0f7a4_40 : decode cJ6_bitCount_0f7a4 40 = .ok (.istore_n 0, 1) := by decide +kernel
theorem dJ6_bitCount_0f7a4_41 : decode cJ6_bitCount_0f7a4 41 = .ok (.iload_n 0, 1) := by decide +kernel
theorem dJ6_bitCount_0f7a4_42 : decode cJ6_bitCount_0f7a4 42 = .ok (.iload_n 0, 1) := by decide +kernel
theorem dJ6_bitCount_0f7a4_43 : decode cJ6_bitCount_0f7a4 43 = .ok (.bipush 16, 2) := by decide +kernel
theorem dJ6_bitCount_0f7a4_45 : decode cJ6_bitCount_0f7a4 45 = .ok (.iushr, 1) := by decide +kernel
theorem dJ6_bitCount_0f7a4_46 : decode cJ6_bitCount_0f7a4 46 = .ok (.iadd, 1) := by decide +kernel
theorem dJ6_bitCount_0f7a4_47 : decode cJ6_bitCount_0f7a4 47 = .ok (.istore_n 0, 1) := by decide +kernel
theorem dJ6_bitCount_0f7a4_48 : decode cJ6_bitCount_0f7a4 48 = .ok (.iload_n 0, 1) := by decide +kernel
theorem dJ6_bitCount_0f7a4_49 : decode cJ6_bitCount_0f7a4 49 = .ok (.bipush 63, 2) := by decide +kernel
theorem dJ6_bitCount_0f7a4_51 : decode cJ6_bitCount_0f7a4 51 = .ok (.iand, 1) := by decide +kernel
theorem dJ6_bitCount_0f7a4_52 : decode cJ6_bitCount_0f7a4 52 = .ok (.ireturn, 1) := by decide +kernel
theorem dX4_shopsOf_0 : decode cX4_shopsOf 0 = .ok (.aload_n 0, 1) := by decide +kernel
theorem dX4_shopsOf_1 : decode cX4_shopsOf 1 = .ok (.iload_n 1, 1) := by decide +kernel
theorem dX4_shopsOf_2 : decode cX4_shopsOf 2 = .ok (.invokevirtual 32, 3) := by decide +kernel
theorem dX4_shopsOf_5 : decode cX4_shopsOf 5 = .ok (.invokestatic 36, 3) := by decide +kernel
theorem dX4_shopsOf_8 : decode cX4_shopsOf 8 = .ok (.ireturn, 1) := by decide +kernel
theorem dX4_openShops_0 : decode cX4_openShops 0 = .ok (.iconst 0, 1) := by decide +kernel
theorem dX4_openShops_1 : decode cX4_openShops 1 = .ok (.istore_n 1, 1) := by decide +kernel
theorem dX4_openShops_2 : decode cX4_openShops 2 = .ok (.iconst 0, 1) := by decide +kernel
theorem dX4_openShops_3 : decode cX4_openShops 3 = .ok (.istore_n 2, 1) := by decide +kernel
theorem dX4_openShops_4 : decode cX4_openShops 4 = .ok (.iload_n 2, 1) := by decide +kernel
theorem dX4_openShops_5 : decode cX4_openShops 5 = .ok (.aload_n 0, 1) := by decide +kernel
theorem dX4_openShops_6 : decode cX4_openShops 6 = .ok (.getfield 22, 3) := by decide +kernel
theorem dX4_openShops_9 : decode cX4_openShops 9 = .ok (.getfield 26, 3) := by decide +kernel
theorem dX4_openShops_12 : decode cX4_openShops 12 = .ok (.if_icmp .ge 23, 3) := by decide +kernel
theorem dX4_openShops_15 : decode cX4_openShops 15 = .ok (.aload_n 0, 1) := by decide +kernel
theorem dX4_openShops_16 : decode cX4_openShops 16 = .ok (.iload_n 2, 1) := by decide +kernel
theorem dX4_openShops_17 : decode cX4_openShops 17 = .ok (.invokevirtual 44, 3) := by decide +kernel
theorem dX4_openShops_20 : decode cX4_openShops 20 = .ok (.ifCond .eq 9, 3) := by decide +kernel
theorem dX4_openShops_23 : decode cX4_openShops 23 = .ok (.iload_n 1, 1) := by decide +kernel
theorem dX4_openShops_24 : decode cX4_openShops 24 = .ok (.iconst 1, 1) := by decide +kernel
theorem dX4_openShops_25 : decode cX4_openShops 25 = .ok (.iload_n 2, 1) := by decide +kernel
theorem dX4_openShops_26 : decode cX4_openShops 26 = .ok (.ishl, 1) := by decide +kernel
theorem dX4_openShops_27 : decode cX4_openShops 27 = .ok (.ior, 1) := by decide +kernel
theorem dX4_openShops_28 : decode cX4_openShops 28 = .ok (.istore_n 1, 1) := by decide +kernel
theorem dX4_openShops_29 : decode cX4_openShops 29 = .ok (.iinc 2 1, 3) := by decide +kernel
theorem dX4_openShops_32 : decode cX4_openShops 32 = .ok (.goto (-28), 3) := by decide +kernel
theorem dX4_openShops_35 : decode cX4_openShops 35 = .ok (.iload_n 1, 1) := by decide +kernel
theorem dX4_openShops_36 : decode cX4_openShops 36 = .ok (.ireturn, 1) := by decide +kernel
theorem dX4_nearestOpen_0 : decode cX4_nearestOpen 0 = .ok (.iconst (-1), 1) := by decide +kernel
theorem dX4_nearestOpen_1 : decode cX4_nearestOpen 1 = .ok (.istore_n 3, 1) := by decide +kernel
theorem dX4_nearestOpen_2 : decode cX4_nearestOpen 2 = .ok (.bipush 99, 2) := by decide +kernel
theorem dX4_nearestOpen_4 : decode cX4_nearestOpen 4 = .ok (.istore 4, 2) := by decide +kernel
theorem dX4_nearestOpen_6 : decode cX4_nearestOpen 6 = .ok (.iconst 0, 1) := by decide +kernel
theorem dX4_nearestOpen_7 : decode cX4_nearestOpen 7 = .ok (.istore 5, 2) := by decide +kernel
theorem dX4_nearestOpen_9 : decode cX4_nearestOpen 9 = .ok (.iload 5, 2) := by decide +kernel
theorem dX4_nearestOpen_11 : decode cX4_nearestOpen 11 = .ok (.aload_n 0, 1) := by decide +kernel
theorem dX4_nearestOpen_12 : decode cX4_nearestOpen 12 = .ok (.getfield 22, 3) := by decide +kernel
theorem dX4_nearestOpen_15 : decode cX4_nearestOpen 15 = .ok (.getfield 26, 3) := by decide +kernel
theorem dX4_nearestOpen_18 : decode cX4_nearestOpen 18 = .ok (.if_icmp .ge 66, 3) := by decide +kernel
theorem dX4_nearestOpen_21 : decode cX4_nearestOpen 21 = .ok (.aload_n 0, 1) := by decide +kernel
theorem dX4_nearestOpen_22 : decode cX4_nearestOpen 22 = .ok (.getfield 22, 3) := by decide +kernel
theorem dX4_nearestOpen_25 : decode cX4_nearestOpen 25 = .ok (.getfield 48, 3) := by decide +kernel
theorem dX4_nearestOpen_28 : decode cX4_nearestOpen 28 = .ok (.iload 5, 2) := by decide +kernel
theorem dX4_nearestOpen_30 : decode cX4_nearestOpen 30 = .ok (.iaload, 1) := by decide +kernel
theorem dX4_nearestOpen_31 : decode cX4_nearestOpen 31 = .ok (.aload_n 0, 1) := by decide +kernel
theorem dX4_nearestOpen_32 : decode cX4_nearestOpen 32 = .ok (.getfield 22, 3) := by decide +kernel
theorem dX4_nearestOpen_35 : decode cX4_nearestOpen 35 = .ok (.getfield 48, 3) := by decide +kernel
theorem dX4_nearestOpen_38 : decode cX4_nearestOpen 38 = .ok (.iload_n 1, 1) := by decide +kernel
theorem dX4_nearestOpen_39 : decode cX4_nearestOpen 39 = .ok (.iaload, 1) := by decide +kernel
theorem dX4_nearestOpen_40 : decode cX4_nearestOpen 40 = .ok (.isub, 1) := by decide +kernel
theorem dX4_nearestOpen_41 : decode cX4_nearestOpen 41 = .ok (.invokestatic 51, 3) := by decide +kernel
theorem dX4_nearestOpen_44 : decode cX4_nearestOpen 44 = .ok (.istore 6, 2) := by decide +kernel
theorem dX4_nearestOpen_46 : decode cX4_nearestOpen 46 = .ok (.iload_n 2, 1) := by decide +kernel
theorem dX4_nearestOpen_47 : decode cX4_nearestOpen 47 = .ok (.iload 5, 2) := by decide +kernel
theorem dX4_nearestOpen_49 : decode cX4_nearestOpen 49 = .ok (.ishr, 1) := by decide +kernel
theorem dX4_nearestOpen_50 : decode cX4_nearestOpen 50 = .ok (.iconst 1, 1) := by decide +kernel
theorem dX4_nearestOpen_51 : decode cX4_nearestOpen 51 = .ok (.iand, 1) := by decide +kernel
theorem dX4_nearestOpen_52 : decode cX4_nearestOpen 52 = .ok (.ifCond .ne 26, 3) := by decide +kernel
theorem dX4_nearestOpen_55 : decode cX4_nearestOpen 55 = .ok (.aload_n 0, 1) := by decide +kernel
theorem dX4_nearestOpen_56 : decode cX4_nearestOpen 56 = .ok (.iload 5, 2) := by decide +kernel
theorem dX4_nearestOpen_58 : decode cX4_nearestOpen 58 = .ok (.invokevirtual 44, 3) := by decide +kernel
theorem dX4_nearestOpen_61 : decode cX4_nearestOpen 61 = .ok (.ifCond .eq 17, 3) := by decide +kernel
theorem dX4_nearestOpen_64 : decode cX4_nearestOpen 64 = .ok (.iload 6, 2) := by decide +kernel
theorem dX4_nearestOpen_66 : decode cX4_nearestOpen 66 = .ok (.iload 4, 2) := by decide +kernel
theorem dX4_nearestOpen_68 : decode cX4_nearestOpen 68 = .ok (.if_icmp .ge 10, 3) := by decide +kernel
theorem dX4_nearestOpen_71 : decode cX4_nearestOpen 71 = .ok (.iload 5, 2) := by decide +kernel
theorem dX4_nearestOpen_73 : decode cX4_nearestOpen 73 = .ok (.istore_n 3, 1) := by decide +kernel
theorem dX4_nearestOpen_74 : decode cX4_nearestOpen 74 = .ok (.iload 6, 2) := by decide +kernel
theorem dX4_nearestOpen_76 : decode cX4_nearestOpen 76 = .ok (.istore 4, 2) := by decide +kernel
theorem dX4_nearestOpen_78 : decode cX4_nearestOpen 78 = .ok (.iinc 5 1, 3) := by decide +kernel
theorem dX4_nearestOpen_81 : decode cX4_nearestOpen 81 = .ok (.goto (-72), 3) := by decide +kernel
theorem dX4_nearestOpen_84 : decode cX4_nearestOpen 84 = .ok (.iload_n 3, 1) := by decide +kernel
theorem dX4_nearestOpen_85 : decode cX4_nearestOpen 85 = .ok (.ireturn, 1) := by decide +kernel
theorem dX4_soldBy_0 : decode cX4_soldBy 0 = .ok (.iconst 0, 1) := by decide +kernel
theorem dX4_soldBy_1 : decode cX4_soldBy 1 = .ok (.istore_n 2, 1) := by decide +kernel
theorem dX4_soldBy_2 : decode cX4_soldBy 2 = .ok (.iconst 0, 1) := by decide +kernel
theorem dX4_soldBy_3 : decode cX4_soldBy 3 = .ok (.istore_n 3, 1) := by decide +kernel
theorem dX4_soldBy_4 : decode cX4_soldBy 4 = .ok (.iload_n 3, 1) := by decide +kernel
theorem dX4_soldBy_5 : decode cX4_soldBy 5 = .ok (.aload_n 0, 1) := by decide +kernel
theorem dX4_soldBy_6 : decode cX4_soldBy 6 = .ok (.getfield 22, 3) := by decide +kernel
theorem dX4_soldBy_9 : decode cX4_soldBy 9 = .ok (.getfield 70, 3) := by decide +kernel
theorem dX4_soldBy_12 : decode cX4_soldBy 12 = .ok (.if_icmp .ge 45, 3) := by decide +kernel
theorem dX4_soldBy_15 : decode cX4_soldBy 15 = .ok (.aload_n 0, 1) := by decide +kernel
theorem dX4_soldBy_16 : decode cX4_soldBy 16 = .ok (.iload_n 3, 1) := by decide +kernel
theorem dX4_soldBy_17 : decode cX4_soldBy 17 = .ok (.iconst (-1), 1) := by decide +kernel
theorem dX4_soldBy_18 : decode cX4_soldBy 18 = .ok (.invokevirtual 67, 3) := by decide +kernel
theorem dX4_soldBy_21 : decode cX4_soldBy 21 = .ok (.istore 4, 2) := by decide +kernel
theorem dX4_soldBy_23 : decode cX4_soldBy 23 = .ok (.iload 4, 2) := by decide +kernel
theorem dX4_soldBy_25 : decode cX4_soldBy 25 = .ok (.iconst (-1), 1) := by decide +kernel
theorem dX4_soldBy_26 : decode cX4_soldBy 26 = .ok (.if_icmp .eq 25, 3) := by decide +kernel
theorem dX4_soldBy_29 : decode cX4_soldBy 29 = .ok (.iload_n 1, 1) := by decide +kernel
theorem dX4_soldBy_30 : decode cX4_soldBy 30 = .ok (.iload 4, 2) := by decide +kernel
theorem dX4_soldBy_32 : decode cX4_soldBy 32 = .ok (.ishr, 1) := by decide +kernel
theorem dX4_soldBy_33 : decode cX4_soldBy 33 = .ok (.iconst 1, 1) := by decide +kernel
theorem dX4_soldBy_34 : decode cX4_soldBy 34 = .ok (.iand, 1) := by decide +kernel
theorem dX4_soldBy_35 : decode cX4_soldBy 35 = .ok (.iconst 1, 1) := by decide +kernel
theorem dX4_soldBy_36 : decode cX4_soldBy 36 = .ok (.if_icmp .ne 15, 3) := by decide +kernel
theorem dX4_soldBy_39 : decode cX4_soldBy 39 = .ok (.iload_n 2, 1) := by decide +kernel
theorem dX4_soldBy_40 : decode cX4_soldBy 40 = .ok (.aload_n 0, 1) := by decide +kernel
theorem dX4_soldBy_41 : decode cX4_soldBy 41 = .ok (.getfield 22, 3) := by decide +kernel
theorem dX4_soldBy_44 : decode cX4_soldBy 44 = .ok (.getfield 73, 3) := by decide +kernel
theorem dX4_soldBy_47 : decode cX4_soldBy 47 = .ok (.iload_n 3, 1) := by decide +kernel
theorem dX4_soldBy_48 : decode cX4_soldBy 48 = .ok (.iaload, 1) := by decide +kernel
theorem dX4_soldBy_49 : decode cX4_soldBy 49 = .ok (.iadd, 1) := by decide +kernel
theorem dX4_soldBy_50 : decode cX4_soldBy 50 = .ok (.istore_n 2, 1) := by decide +kernel
theorem dX4_soldBy_51 : decode cX4_soldBy 51 = .ok (.iinc 3 1, 3) := by decide +kernel
theorem dX4_soldBy_54 : decode cX4_soldBy 54 = .ok (.goto (-50), 3) := by decide +kernel
theorem dX4_soldBy_57 : decode cX4_soldBy 57 = .ok (.iload_n 2, 1) := by decide +kernel
theorem dX4_soldBy_58 : decode cX4_soldBy 58 = .ok (.ireturn, 1) := by decide +kernel
theorem dX4_marginOf_0 : decode cX4_marginOf 0 = .ok (.iconst 0, 1) := by decide +kernel
theorem dX4_marginOf_1 : decode cX4_marginOf 1 = .ok (.istore_n 2, 1) := by decide +kernel
theorem dX4_marginOf_2 : decode cX4_marginOf 2 = .ok (.iconst 0, 1) := by decide +kernel
theorem dX4_marginOf_3 : decode cX4_marginOf 3 = .ok (.istore_n 3, 1) := by decide +kernel
theorem dX4_marginOf_4 : decode cX4_marginOf 4 = .ok (.iload_n 3, 1) := by decide +kernel
theorem dX4_marginOf_5 : decode cX4_marginOf 5 = .ok (.aload_n 0, 1) := by decide +kernel
theorem dX4_marginOf_6 : decode cX4_marginOf 6 = .ok (.getfield 22, 3) := by decide +kernel
theorem dX4_marginOf_9 : decode cX4_marginOf 9 = .ok (.getfield 70, 3) := by decide +kernel
theorem dX4_marginOf_12 : decode cX4_marginOf 12 = .ok (.if_icmp .ge 64, 3) := by decide +kernel
theorem dX4_marginOf_15 : decode cX4_marginOf 15 = .ok (.aload_n 0, 1) := by decide +kernel
theorem dX4_marginOf_16 : decode cX4_marginOf 16 = .ok (.iload_n 3, 1) := by decide +kernel
theorem dX4_marginOf_17 : decode cX4_marginOf 17 = .ok (.iconst (-1), 1) := by decide +kernel
theorem dX4_marginOf_18 : decode cX4_marginOf 18 = .ok (.invokevirtual 67, 3) := by decide +kernel
theorem dX4_marginOf_21 : decode cX4_marginOf 21 = .ok (.istore 4, 2) := by decide +kernel
theorem dX4_marginOf_23 : decode cX4_marginOf 23 = .ok (.iload 4, 2) := by decide +kernel
theorem dX4_marginOf_25 : decode cX4_marginOf 25 = .ok (.iconst (-1), 1) := by decide +kernel
theorem dX4_marginOf_26 : decode cX4_marginOf 26 = .ok (.if_icmp .eq 44, 3) := by decide +kernel
theorem dX4_marginOf_29 : decode cX4_marginOf 29 = .ok (.iload_n 1, 1) := by decide +kernel
theorem dX4_marginOf_30 : decode cX4_marginOf 30 = .ok (.iload 4, 2) := by decide +kernel
theorem dX4_marginOf_32 : decode cX4_marginOf 32 = .ok (.ishr, 1) := by decide +kernel
theorem dX4_marginOf_33 : decode cX4_marginOf 33 = .ok (.iconst 1, 1) := by decide +kernel
theorem dX4_marginOf_34 : decode cX4_marginOf 34 = .ok (.iand, 1) := by decide +kernel
theorem dX4_marginOf_35 : decode cX4_marginOf 35 = .ok (.iconst 1, 1) := by decide +kernel
theorem dX4_marginOf_36 : decode cX4_marginOf 36 = .ok (.if_icmp .ne 34, 3) := by decide +kernel
theorem dX4_marginOf_39 : decode cX4_marginOf 39 = .ok (.iload_n 2, 1) := by decide +kernel
theorem dX4_marginOf_40 : decode cX4_marginOf 40 = .ok (.aload_n 0, 1) := by decide +kernel
theorem dX4_marginOf_41 : decode cX4_marginOf 41 = .ok (.getfield 22, 3) := by decide +kernel
theorem dX4_marginOf_44 : decode cX4_marginOf 44 = .ok (.getfield 73, 3) := by decide +kernel
theorem dX4_marginOf_47 : decode cX4_marginOf 47 = .ok (.iload_n 3, 1) := by decide +kernel
theorem dX4_marginOf_48 : decode cX4_marginOf 48 = .ok (.iaload, 1) := by decide +kernel
theorem dX4_marginOf_49 : decode cX4_marginOf 49 = .ok (.aload_n 0, 1) := by decide +kernel
theorem dX4_marginOf_50 : decode cX4_marginOf 50 = .ok (.getfield 9, 3) := by decide +kernel
theorem dX4_marginOf_53 : decode cX4_marginOf 53 = .ok (.iload 4, 2) := by decide +kernel
theorem dX4_marginOf_55 : decode cX4_marginOf 55 = .ok (.iaload, 1) := by decide +kernel
theorem dX4_marginOf_56 : decode cX4_marginOf 56 = .ok (.aload_n 0, 1) := by decide +kernel
theorem dX4_marginOf_57 : decode cX4_marginOf 57 = .ok (.getfield 22, 3) := by decide +kernel
theorem dX4_marginOf_60 : decode cX4_marginOf 60 = .ok (.getfield 79, 3) := by decide +kernel
theorem dX4_marginOf_63 : decode cX4_marginOf 63 = .ok (.iload 4, 2) := by decide +kernel
theorem dX4_marginOf_65 : decode cX4_marginOf 65 = .ok (.iaload, 1) := by decide +kernel
theorem dX4_marginOf_66 : decode cX4_marginOf 66 = .ok (.isub, 1) := by decide +kernel
theorem dX4_marginOf_67 : decode cX4_marginOf 67 = .ok (.imul, 1) := by decide +kernel
theorem dX4_marginOf_68 : decode cX4_marginOf 68 = .ok (.iadd, 1) := by decide +kernel
theorem dX4_marginOf_69 : decode cX4_marginOf 69 = .ok (.istore_n 2, 1) := by decide +kernel
theorem dX4_marginOf_70 : decode cX4_marginOf 70 = .ok (.iinc 3 1, 3) := by decide +kernel
theorem dX4_marginOf_73 : decode cX4_marginOf 73 = .ok (.goto (-69), 3) := by decide +kernel
theorem dX4_marginOf_76 : decode cX4_marginOf 76 = .ok (.iload_n 2, 1) := by decide +kernel
theorem dX4_marginOf_77 : decode cX4_marginOf 77 = .ok (.ireturn, 1) := by decide +kernel
theorem dX5_addOwner_0 : decode cX5_addOwner 0 = .ok (.aload_n 0, 1) := by decide +kernel
theorem dX5_addOwner_1 : decode cX5_addOwner 1 = .ok (.getfield 47, 3) := by decide +kernel
theorem dX5_addOwner_4 : decode cX5_addOwner 4 = .ok (.bipush 6, 2) := by decide +kernel
theorem dX5_addOwner_6 : decode cX5_addOwner 6 = .ok (.if_icmp .lt 6, 3) := by decide +kernel
theorem dX5_addOwner_9 : decode cX5_addOwner 9 = .ok (.bipush (-104), 2) := by decide +kernel
theorem dX5_addOwner_11 : decode cX5_addOwner 11 = .ok (.ireturn, 1) := by decide +kernel
theorem dX5_addOwner_12 : decode cX5_addOwner 12 = .ok (.aload_n 0, 1) := by decide +kernel
theorem dX5_addOwner_13 : decode cX5_addOwner 13 = .ok (.getfield 9, 3) := by decide +kernel
theorem dX5_addOwner_16 : decode cX5_addOwner 16 = .ok (.aload_n 0, 1) := by decide +kernel
theorem dX5_addOwner_17 : decode cX5_addOwner 17 = .ok (.getfield 47, 3) := by decide +kernel
theorem dX5_addOwner_20 : decode cX5_addOwner 20 = .ok (.iload_n 1, 1) := by decide +kernel
theorem dX5_addOwner_21 : decode cX5_addOwner 21 = .ok (.iastore, 1) := by decide +kernel
theorem dX5_addOwner_22 : decode cX5_addOwner 22 = .ok (.aload_n 0, 1) := by decide +kernel
theorem dX5_addOwner_23 : decode cX5_addOwner 23 = .ok (.getfield 15, 3) := by decide +kernel
theorem dX5_addOwner_26 : decode cX5_addOwner 26 = .ok (.aload_n 0, 1) := by decide +kernel
theorem dX5_addOwner_27 : decode cX5_addOwner 27 = .ok (.getfield 47, 3) := by decide +kernel
theorem dX5_addOwner_30 : decode cX5_addOwner 30 = .ok (.iload_n 2, 1) := by decide +kernel
theorem dX5_addOwner_31 : decode cX5_addOwner 31 = .ok (.iastore, 1) := by decide +kernel
theorem dX5_addOwner_32 : decode cX5_addOwner 32 = .ok (.aload_n 0, 1) := by decide +kernel
theorem dX5_addOwner_33 : decode cX5_addOwner 33 = .ok (.dup, 1) := by decide +kernel
theorem dX5_addOwner_34 : decode cX5_addOwner 34 = .ok (.getfield 47, 3) := by decide +kernel
theorem dX5_addOwner_37 : decode cX5_addOwner 37 = .ok (.iconst 1, 1) := by decide +kernel
theorem dX5_addOwner_38 : decode cX5_addOwner 38 = .ok (.iadd, 1) := by decide +kernel
theorem dX5_addOwner_39 : decode cX5_addOwner 39 = .ok (.putfield 47, 3) := by decide +kernel
theorem dX5_addOwner_42 : decode cX5_addOwner 42 = .ok (.aload_n 0, 1) := by decide +kernel
theorem dX5_addOwner_43 : decode cX5_addOwner 43 = .ok (.getfield 47, 3) := by decide +kernel
theorem dX5_addOwner_46 : decode cX5_addOwner 46 = .ok (.iconst 1, 1) := by decide +kernel
theorem dX5_addOwner_47 : decode cX5_addOwner 47 = .ok (.isub, 1) := by decide +kernel
theorem dX5_addOwner_48 : decode cX5_addOwner 48 = .ok (.ireturn, 1) := by decide +kernel
theorem dX5_measure_0 : decode cX5_measure 0 = .ok (.aload_n 0, 1) := by decide +kernel
theorem dX5_measure_1 : decode cX5_measure 1 = .ok (.getfield 24, 3) := by decide +kernel
theorem dX5_measure_4 : decode cX5_measure 4 = .ok (.iload_n 1, 1) := by decide +kernel
theorem dX5_measure_5 : decode cX5_measure 5 = .ok (.iaload, 1) := by decide +kernel
theorem dX5_measure_6 : decode cX5_measure 6 = .ok (.aload_n 0, 1) := by decide +kernel
theorem dX5_measure_7 : decode cX5_measure 7 = .ok (.getfield 18, 3) := by decide +kernel
theorem dX5_measure_10 : decode cX5_measure 10 = .ok (.iload_n 2, 1) := by decide +kernel
theorem dX5_measure_11 : decode cX5_measure 11 = .ok (.iaload, 1) := by decide +kernel
theorem dX5_measure_12 : decode cX5_measure 12 = .ok (.isub, 1) := by decide +kernel
theorem dX5_measure_13 : decode cX5_measure 13 = .ok (.invokestatic 61, 3) := by decide +kernel
theorem dX5_measure_16 : decode cX5_measure 16 = .ok (.istore_n 3, 1) := by decide +kernel
theorem dX5_measure_17 : decode cX5_measure 17 = .ok (.aload_n 0, 1) := by decide +kernel
theorem dX5_measure_18 : decode cX5_measure 18 = .ok (.getfield 44, 3) := by decide +kernel
theorem dX5_measure_21 : decode cX5_measure 21 = .ok (.iload_n 1, 1) := by decide +kernel
theorem dX5_measure_22 : decode cX5_measure 22 = .ok (.aaload, 1) := by decide +kernel
theorem dX5_measure_23 : decode cX5_measure 23 = .ok (.iload_n 2, 1) := by decide +kernel
theorem dX5_measure_24 : decode cX5_measure 24 = .ok (.aload_n 0, 1) := by decide +kernel
theorem dX5_measure_25 : decode cX5_measure 25 = .ok (.getfield 30, 3) := by decide +kernel
theorem dX5_measure_28 : decode cX5_measure 28 = .ok (.iload_n 1, 1) := by decide +kernel
theorem dX5_measure_29 : decode cX5_measure 29 = .ok (.iaload, 1) := by decide +kernel
theorem dX5_measure_30 : decode cX5_measure 30 = .ok (.iload_n 3, 1) := by decide +kernel
theorem dX5_measure_31 : decode cX5_measure 31 = .ok (.imul, 1) := by decide +kernel
theorem dX5_measure_32 : decode cX5_measure 32 = .ok (.aload_n 0, 1) := by decide +kernel
theorem dX5_measure_33 : decode cX5_measure 33 = .ok (.getfield 36, 3) := by decide +kernel
theorem dX5_measure_36 : decode cX5_measure 36 = .ok (.iload_n 1, 1) := by decide +kernel
theorem dX5_measure_37 : decode cX5_measure 37 = .ok (.iaload, 1) := by decide +kernel
theorem dX5_measure_38 : decode cX5_measure 38 = .ok (.iload_n 2, 1) := by decide +kernel
theorem dX5_measure_39 : decode cX5_measure 39 = .ok (.if_icmp .ne 12, 3) := by decide +kernel
theorem dX5_measure_42 : decode cX5_measure 42 = .ok (.aload_n 0, 1) := by decide +kernel
theorem dX5_measure_43 : decode cX5_measure 43 = .ok (.getfield 39, 3) := by decide +kernel
theorem dX5_measure_46 : decode cX5_measure 46 = .ok (.iload_n 1, 1) := by decide +kernel
theorem dX5_measure_47 : decode cX5_measure 47 = .ok (.iaload, 1) := by decide +kernel
theorem dX5_measure_48 : decode cX5_measure 48 = .ok (.goto 4, 3) := by decide +kernel
theorem dX5_measure_51 : decode cX5_measure 51 = .ok (.iconst 0, 1) := by decide +kernel
theorem dX5_measure_52 : decode cX5_measure 52 = .ok (.isub, 1) := by decide +kernel
theorem dX5_measure_53 : decode cX5_measure 53 = .ok (.iastore, 1) := by decide +kernel
theorem dX5_measure_54 : decode cX5_measure 54 = .ok (.return_, 1) := by decide +kernel
theorem dX5_addShop_0 : decode cX5_addShop 0 = .ok (.aload_n 0, 1) := by decide +kernel
theorem dX5_addShop_1 : decode cX5_addShop 1 = .ok (.getfield 51, 3) := by decide +kernel
theorem dX5_addShop_4 : decode cX5_addShop 4 = .ok (.bipush 6, 2) := by decide +kernel
theorem dX5_addShop_6 : decode cX5_addShop 6 = .ok (.if_icmp .lt 6, 3) := by decide +kernel
theorem dX5_addShop_9 : decode cX5_addShop 9 = .ok (.bipush (-104), 2) := by decide +kernel
theorem dX5_addShop_11 : decode cX5_addShop 11 = .ok (.ireturn, 1) := by decide +kernel
theorem dX5_addShop_12 : decode cX5_addShop 12 = .ok (.aload_n 0, 1) := by decide +kernel
theorem dX5_addShop_13 : decode cX5_addShop 13 = .ok (.getfield 18, 3) := by decide +kernel
theorem dX5_addShop_16 : decode cX5_addShop 16 = .ok (.aload_n 0, 1) := by decide +kernel
theorem dX5_addShop_17 : decode cX5_addShop 17 = .ok (.getfield 51, 3) := by decide +kernel
theorem dX5_addShop_20 : decode cX5_addShop 20 = .ok (.iload_n 1, 1) := by decide +kernel
theorem dX5_addShop_21 : decode cX5_addShop 21 = .ok (.iastore, 1) := by decide +kernel
theorem dX5_addShop_22 : decode cX5_addShop 22 = .ok (.aload_n 0, 1) := by decide +kernel
theorem dX5_addShop_23 : decode cX5_addShop 23 = .ok (.getfield 21, 3) := by decide +kernel
theorem dX5_addShop_26 : decode cX5_addShop 26 = .ok (.aload_n 0, 1) := by decide +kernel
theorem dX5_addShop_27 : decode cX5_addShop 27 = .ok (.getfield 51, 3) := by decide +kernel
theorem dX5_addShop_30 : decode cX5_addShop 30 = .ok (.iload_n 2, 1) := by decide +kernel
theorem dX5_addShop_31 : decode cX5_addShop 31 = .ok (.iastore, 1) := by decide +kernel
theorem dX5_addShop_32 : decode cX5_addShop 32 = .ok (.aload_n 0, 1) := by decide +kernel
theorem dX5_addShop_33 : decode cX5_addShop 33 = .ok (.dup, 1) := by decide +kernel
theorem dX5_addShop_34 : decode cX5_addShop 34 = .ok (.getfield 51, 3) := by decide +kernel
theorem dX5_addShop_37 : decode cX5_addShop 37 = .ok (.iconst 1, 1) := by decide +kernel
theorem dX5_addShop_38 : decode cX5_addShop 38 = .ok (.iadd, 1) := by decide +kernel
theorem dX5_addShop_39 : decode cX5_addShop 39 = .ok (.putfield 51, 3) := by decide +kernel
theorem dX5_addShop_42 : decode cX5_addShop 42 = .ok (.iconst 0, 1) := by decide +kernel
theorem dX5_addShop_43 : decode cX5_addShop 43 = .ok (.istore_n 3, 1) := by decide +kernel
theorem dX5_addShop_44 : decode cX5_addShop 44 = .ok (.iload_n 3, 1) := by decide +kernel
theorem dX5_addShop_45 : decode cX5_addShop 45 = .ok (.aload_n 0, 1) := by decide +kernel
theorem dX5_addShop_46 : decode cX5_addShop 46 = .ok (.getfield 54, 3) := by decide +kernel
theorem dX5_addShop_49 : decode cX5_addShop 49 = .ok (.if_icmp .ge 20, 3) := by decide +kernel
theorem dX5_addShop_52 : decode cX5_addShop 52 = .ok (.aload_n 0, 1) := by decide +kernel
theorem dX5_addShop_53 : decode cX5_addShop 53 = .ok (.iload_n 3, 1) := by decide +kernel
theorem dX5_addShop_54 : decode cX5_addShop 54 = .ok (.aload_n 0, 1) := by decide +kernel
theorem dX5_addShop_55 : decode cX5_addShop 55 = .ok (.getfield 51, 3) := by decide +kernel
theorem dX5_addShop_58 : decode cX5_addShop 58 = .ok (.iconst 1, 1) := by decide +kernel
theorem dX5_addShop_59 : decode cX5_addShop 59 = .ok (.isub, 1) := by decide +kernel
theorem dX5_addShop_60 : decode cX5_addShop 60 = .ok (.invokevirtual 57, 3) := by decide +kernel
theorem dX5_addShop_63 : decode cX5_addShop 63 = .ok (.iinc 3 1, 3) := by decide +kernel
theorem dX5_addShop_66 : decode cX5_addShop 66 = .ok (.goto (-22), 3) := by decide +kernel
theorem dX5_addShop_69 : decode cX5_addShop 69 = .ok (.aload_n 0, 1) := by decide +kernel
theorem dX5_addShop_70 : decode cX5_addShop 70 = .ok (.getfield 51, 3) := by decide +kernel
theorem dX5_addShop_73 : decode cX5_addShop 73 = .ok (.iconst 1, 1) := by decide +kernel
theorem dX5_addShop_74 : decode cX5_addShop 74 = .ok (.isub, 1) := by decide +kernel
theorem dX5_addShop_75 : decode cX5_addShop 75 = .ok (.ireturn, 1) := by decide +kernel
theorem dX5_addSort_0 : decode cX5_addSort 0 = .ok (.aload_n 0, 1) := by decide +kernel
theorem dX5_addSort_1 : decode cX5_addSort 1 = .ok (.getfield 54, 3) := by decide +kernel
theorem dX5_addSort_4 : decode cX5_addSort 4 = .ok (.bipush 8, 2) := by decide +kernel
theorem dX5_addSort_6 : decode cX5_addSort 6 = .ok (.if_icmp .lt 6, 3) := by decide +kernel
theorem dX5_addSort_9 : decode cX5_addSort 9 = .ok (.bipush (-104), 2) := by decide +kernel
theorem dX5_addSort_11 : decode cX5_addSort 11 = .ok (.ireturn, 1) := by decide +kernel
theorem dX5_addSort_12 : decode cX5_addSort 12 = .ok (.aload_n 0, 1) := by decide +kernel
theorem dX5_addSort_13 : decode cX5_addSort 13 = .ok (.getfield 24, 3) := by decide +kernel
theorem dX5_addSort_16 : decode cX5_addSort 16 = .ok (.aload_n 0, 1) := by decide +kernel
theorem dX5_addSort_17 : decode cX5_addSort 17 = .ok (.getfield 54, 3) := by decide +kernel
theorem dX5_addSort_20 : decode cX5_addSort 20 = .ok (.iload_n 1, 1) := by decide +kernel
theorem dX5_addSort_21 : decode cX5_addSort 21 = .ok (.iastore, 1) := by decide +kernel
theorem dX5_addSort_22 : decode cX5_addSort 22 = .ok (.aload_n 0, 1) := by decide +kernel
theorem dX5_addSort_23 : decode cX5_addSort 23 = .ok (.getfield 27, 3) := by decide +kernel
theorem dX5_addSort_26 : decode cX5_addSort 26 = .ok (.aload_n 0, 1) := by decide +kernel
theorem dX5_addSort_27 : decode cX5_addSort 27 = .ok (.getfield 54, 3) := by decide +kernel
theorem dX5_addSort_30 : decode cX5_addSort 30 = .ok (.iload_n 2, 1) := by decide +kernel
theorem dX5_addSort_31 : decode cX5_addSort 31 = .ok (.iastore, 1) := by decide +kernel
theorem dX5_addSort_32 : decode cX5_addSort 32 = .ok (.aload_n 0, 1) := by decide +kernel
theorem dX5_addSort_33 : decode cX5_addSort 33 = .ok (.getfield 30, 3) := by decide +kernel
theorem dX5_addSort_36 : decode cX5_addSort 36 = .ok (.aload_n 0, 1) := by decide +kernel
theorem dX5_addSort_37 : decode cX5_addSort 37 = .ok (.getfield 54, 3) := by decide +kernel
theorem dX5_addSort_40 : decode cX5_addSort 40 = .ok (.iload_n 3, 1) := by decide +kernel
theorem dX5_addSort_41 : decode cX5_addSort 41 = .ok (.iastore, 1) := by decide +kernel
theorem dX5_addSort_42 : decode cX5_addSort 42 = .ok (.aload_n 0, 1) := by decide +kernel
theorem dX5_addSort_43 : decode cX5_addSort 43 = .ok (.getfield 33, 3) := by decide +kernel
theorem dX5_addSort_46 : decode cX5_addSort 46 = .ok (.aload_n 0, 1) := by decide +kernel
theorem dX5_addSort_47 : decode cX5_addSort 47 = .ok (.getfield 54, 3) := by decide +kernel
theorem dX5_addSort_50 : decode cX5_addSort 50 = .ok (.iload 4, 2) := by decide +kernel
theorem dX5_addSort_52 : decode cX5_addSort 52 = .ok (.iastore, 1) := by decide +kernel
theorem dX5_addSort_53 : decode cX5_addSort 53 = .ok (.aload_n 0, 1) := by decide +kernel
theorem dX5_addSort_54 : decode cX5_addSort 54 = .ok (.getfield 36, 3) := by decide +kernel
theorem dX5_addSort_57 : decode cX5_addSort 57 = .ok (.aload_n 0, 1) := by decide +kernel
theorem dX5_addSort_58 : decode cX5_addSort 58 = .ok (.getfield 54, 3) := by decide +kernel
theorem dX5_addSort_61 : decode cX5_addSort 61 = .ok (.iload 5, 2) := by decide +kernel
theorem dX5_addSort_63 : decode cX5_addSort 63 = .ok (.iastore, 1) := by decide +kernel
theorem dX5_addSort_64 : decode cX5_addSort 64 = .ok (.aload_n 0, 1) := by decide +kernel
theorem dX5_addSort_65 : decode cX5_addSort 65 = .ok (.getfield 39, 3) := by decide +kernel
theorem dX5_addSort_68 : decode cX5_addSort 68 = .ok (.aload_n 0, 1) := by decide +kernel
theorem dX5_addSort_69 : decode cX5_addSort 69 = .ok (.getfield 54, 3) := by decide +kernel
theorem dX5_addSort_72 : decode cX5_addSort 72 = .ok (.iload 6, 2) := by decide +kernel
theorem dX5_addSort_74 : decode cX5_addSort 74 = .ok (.iastore, 1) := by decide +kernel
theorem dX5_addSort_75 : decode cX5_addSort 75 = .ok (.aload_n 0, 1) := by decide +kernel
theorem dX5_addSort_76 : decode cX5_addSort 76 = .ok (.dup, 1) := by decide +kernel
theorem dX5_addSort_77 : decode cX5_addSort 77 = .ok (.getfield 54, 3) := by decide +kernel
theorem dX5_addSort_80 : decode cX5_addSort 80 = .ok (.iconst 1, 1) := by decide +kernel
theorem dX5_addSort_81 : decode cX5_addSort 81 = .ok (.iadd, 1) := by decide +kernel
theorem dX5_addSort_82 : decode cX5_addSort 82 = .ok (.putfield 54, 3) := by decide +kernel
theorem dX5_addSort_85 : decode cX5_addSort 85 = .ok (.iconst 0, 1) := by decide +kernel
theorem dX5_addSort_86 : decode cX5_addSort 86 = .ok (.istore 7, 2) := by decide +kernel
theorem dX5_addSort_88 : decode cX5_addSort 88 = .ok (.iload 7, 2) := by decide +kernel
theorem dX5_addSort_90 : decode cX5_addSort 90 = .ok (.aload_n 0, 1) := by decide +kernel
theorem dX5_addSort_91 : decode cX5_addSort 91 = .ok (.getfield 51, 3) := by decide +kernel
theorem dX5_addSort_94 : decode cX5_addSort 94 = .ok (.if_icmp .ge 21, 3) := by decide +kernel
theorem dX5_addSort_97 : decode cX5_addSort 97 = .ok (.aload_n 0, 1) := by decide +kernel
theorem dX5_addSort_98 : decode cX5_addSort 98 = .ok (.aload_n 0, 1) := by decide +kernel
theorem dX5_addSort_99 : decode cX5_addSort 99 = .ok (.getfield 54, 3) := by decide +kernel
theorem dX5_addSort_102 : decode cX5_addSort 102 = .ok (.iconst 1, 1) := by decide +kernel
theorem dX5_addSort_103 : decode cX5_addSort 103 = .ok (.isub, 1) := by decide +kernel
theorem dX5_addSort_104 : decode cX5_addSort 104 = .ok (.iload 7, 2) := by decide +kernel
theorem dX5_addSort_106 : decode cX5_addSort 106 = .ok (.invokevirtual 57, 3) := by decide +kernel
theorem dX5_addSort_109 : decode cX5_addSort 109 = .ok (.iinc 7 1, 3) := by decide +kernel
theorem dX5_addSort_112 : decode cX5_addSort 112 = .ok (.goto (-24), 3) := by decide +kernel
theorem dX5_addSort_115 : decode cX5_addSort 115 = .ok (.aload_n 0, 1) := by decide +kernel
theorem dX5_addSort_116 : decode cX5_addSort 116 = .ok (.getfield 54, 3) := by decide +kernel
theorem dX5_addSort_119 : decode cX5_addSort 119 = .ok (.iconst 1, 1) := by decide +kernel
theorem dX5_addSort_120 : decode cX5_addSort 120 = .ok (.isub, 1) := by decide +kernel
theorem dX5_addSort_121 : decode cX5_addSort 121 = .ok (.ireturn, 1) := by decide +kernel
theorem dX6_append_0 : decode cX6_append 0 = .ok (.aload_n 0, 1) := by decide +kernel
theorem dX6_append_1 : decode cX6_append 1 = .ok (.getfield 15, 3) := by decide +kernel
theorem dX6_append_4 : decode cX6_append 4 = .ok (.bipush 50, 2) := by decide +kernel
theorem dX6_append_6 : decode cX6_append 6 = .ok (.if_icmp .ge 23, 3) := by decide +kernel
theorem dX6_append_9 : decode cX6_append 9 = .ok (.aload_n 0, 1) := by decide +kernel
theorem dX6_append_10 : decode cX6_append 10 = .ok (.getfield 9, 3) := by decide +kernel
theorem dX6_append_13 : decode cX6_append 13 = .ok (.aload_n 0, 1) := by decide +kernel
theorem dX6_append_14 : decode cX6_append 14 = .ok (.getfield 15, 3) := by decide +kernel
theorem dX6_append_17 : decode cX6_append 17 = .ok (.iload_n 1, 1) := by decide +kernel
theorem dX6_append_18 : decode cX6_append 18 = .ok (.castore, 1) := by decide +kernel
theorem dX6_append_19 : decode cX6_append 19 = .ok (.aload_n 0, 1) := by decide +kernel
theorem dX6_append_20 : decode cX6_append 20 = .ok (.dup, 1) := by decide +kernel
theorem dX6_append_21 : decode cX6_append 21 = .ok (.getfield 15, 3) := by decide +kernel
theorem dX6_append_24 : decode cX6_append 24 = .ok (.iconst 1, 1) := by decide +kernel
theorem dX6_append_25 : decode cX6_append 25 = .ok (.iadd, 1) := by decide +kernel
theorem dX6_append_26 : decode cX6_append 26 = .ok (.putfield 15, 3) := by decide +kernel
theorem dX6_append_29 : decode cX6_append 29 = .ok (.return_, 1) := by decide +kernel
theorem dX6_become_0 : decode cX6_become 0 = .ok (.aload_n 0, 1) := by decide +kernel
theorem dX6_become_1 : decode cX6_become 1 = .ok (.aload_n 1, 1) := by decide +kernel
theorem dX6_become_2 : decode cX6_become 2 = .ok (.getfield 15, 3) := by decide +kernel
theorem dX6_become_5 : decode cX6_become 5 = .ok (.putfield 15, 3) := by decide +kernel
theorem dX6_become_8 : decode cX6_become 8 = .ok (.iconst 0, 1) := by decide +kernel
theorem dX6_become_9 : decode cX6_become 9 = .ok (.istore_n 2, 1) := by decide +kernel
theorem dX6_become_10 : decode cX6_become 10 = .ok (.iload_n 2, 1) := by decide +kernel
theorem dX6_become_11 : decode cX6_become 11 = .ok (.aload_n 0, 1) := by decide +kernel
theorem dX6_become_12 : decode cX6_become 12 = .ok (.getfield 15, 3) := by decide +kernel
theorem dX6_become_15 : decode cX6_become 15 = .ok (.if_icmp .ge 21, 3) := by decide +kernel
theorem dX6_become_18 : decode cX6_become 18 = .ok (.aload_n 0, 1) := by decide +kernel
theorem dX6_become_19 : decode cX6_become 19 = .ok (.getfield 9, 3) := by decide +kernel
theorem dX6_become_22 : decode cX6_become 22 = .ok (.iload_n 2, 1) := by decide +kernel
theorem dX6_become_23 : decode cX6_become 23 = .ok (.aload_n 1, 1) := by decide +kernel
theorem dX6_become_24 : decode cX6_become 24 = .ok (.getfield 9, 3) := by decide +kernel
theorem dX6_become_27 : decode cX6_become 27 = .ok (.iload_n 2, 1) := by decide +kernel
theorem dX6_become_28 : decode cX6_become 28 = .ok (.caload, 1) := by decide +kernel
theorem dX6_become_29 : decode cX6_become 29 = .ok (.castore, 1) := by decide +kernel
theorem dX6_become_30 : decode cX6_become 30 = .ok (.iinc 2 1, 3) := by decide +kernel
theorem dX6_become_33 : decode cX6_become 33 = .ok (.goto (-23), 3) := by decide +kernel
theorem dX6_become_36 : decode cX6_become 36 = .ok (.return_, 1) := by decide +kernel
theorem dX7_isNot_0 : decode cX7_isNot 0 = .ok (.iload_n 0, 1) := by decide +kernel
theorem dX7_isNot_1 : decode cX7_isNot 1 = .ok (.iload_n 1, 1) := by decide +kernel
theorem dX7_isNot_2 : decode cX7_isNot 2 = .ok (.if_icmp .lt 8, 3) := by decide +kernel
theorem dX7_isNot_5 : decode cX7_isNot 5 = .ok (.iload_n 0, 1) := by decide +kernel
theorem dX7_isNot_6 : decode cX7_isNot 6 = .ok (.iload_n 2, 1) := by decide +kernel
theorem dX7_isNot_7 : decode cX7_isNot 7 = .ok (.if_icmp .le 7, 3) := by decide +kernel
theorem dX7_isNot_10 : decode cX7_isNot 10 = .ok (.iconst 1, 1) := by decide +kernel
theorem dX7_isNot_11 : decode cX7_isNot 11 = .ok (.goto 4, 3) := by decide +kernel
theorem dX7_isNot_14 : decode cX7_isNot 14 = .ok (.iconst 0, 1) := by decide +kernel
theorem dX7_isNot_15 : decode cX7_isNot 15 = .ok (.ireturn, 1) := by decide +kernel
theorem dX7_owner_0 : decode cX7_owner 0 = .ok (.iload_n 1, 1) := by decide +kernel
theorem dX7_owner_1 : decode cX7_owner 1 = .ok (.iconst 0, 1) := by decide +kernel
theorem dX7_owner_2 : decode cX7_owner 2 = .ok (.iconst 4, 1) := by decide +kernel
theorem dX7_owner_3 : decode cX7_owner 3 = .ok (.invokestatic 72, 3) := by decide +kernel
theorem dX7_owner_6 : decode cX7_owner 6 = .ok (.ifCond .ne 13, 3) := by decide +kernel
theorem dX7_owner_9 : decode cX7_owner 9 = .ok (.iload_n 2, 1) := by decide +kernel
theorem dX7_owner_10 : decode cX7_owner 10 = .ok (.iconst 0, 1) := by decide +kernel
theorem dX7_owner_11 : decode cX7_owner 11 = .ok (.bipush 99, 2) := by decide +kernel
theorem dX7_owner_13 : decode cX7_owner 13 = .ok (.invokestatic 72, 3) := by decide +kernel
theorem dX7_owner_16 : decode cX7_owner 16 = .ok (.ifCond .eq 6, 3) := by decide +kernel
theorem dX7_owner_19 : decode cX7_owner 19 = .ok (.bipush (-102), 2) := by decide +kernel
theorem dX7_owner_21 : decode cX7_owner 21 = .ok (.ireturn, 1) := by decide +kernel
theorem dX7_owner_22 : decode cX7_owner 22 = .ok (.aload_n 0, 1) := by decide +kernel
theorem dX7_owner_23 : decode cX7_owner 23 = .ok (.getfield 10, 3) := by decide +kernel
theorem dX7_owner_26 : decode cX7_owner 26 = .ok (.iload_n 1, 1) := by decide +kernel
theorem dX7_owner_27 : decode cX7_owner 27 = .ok (.iload_n 2, 1) := by decide +kernel
theorem dX7_owner_28 : decode cX7_owner 28 = .ok (.invokevirtual 76, 3) := by decide +kernel
theorem dX7_owner_31 : decode cX7_owner 31 = .ok (.ireturn, 1) := by decide +kernel
theorem dX7_isNoOwner_0 : decode cX7_isNoOwner 0 = .ok (.iload_n 1, 1) := by decide +kernel
theorem dX7_isNoOwner_1 : decode cX7_isNoOwner 1 = .ok (.iconst 0, 1) := by decide +kernel
theorem dX7_isNoOwner_2 : decode cX7_isNoOwner 2 = .ok (.aload_n 0, 1) := by decide +kernel
theorem dX7_isNoOwner_3 : decode cX7_isNoOwner 3 = .ok (.getfield 10, 3) := by decide +kernel
theorem dX7_isNoOwner_6 : decode cX7_isNoOwner 6 = .ok (.getfield 159, 3) := by decide +kernel
theorem dX7_isNoOwner_9 : decode cX7_isNoOwner 9 = .ok (.iconst 1, 1) := by decide +kernel
theorem dX7_isNoOwner_10 : decode cX7_isNoOwner 10 = .ok (.isub, 1) := by decide +kernel
theorem dX7_isNoOwner_11 : decode cX7_isNoOwner 11 = .ok (.invokestatic 72, 3) := by decide +kernel
theorem dX7_isNoOwner_14 : decode cX7_isNoOwner 14 = .ok (.ireturn, 1) := by decide +kernel
theorem dX7_as_0 : decode cX7_as 0 = .ok (.aload_n 0, 1) := by decide +kernel
theorem dX7_as_1 : decode cX7_as 1 = .ok (.iload_n 1, 1) := by decide +kernel
theorem dX7_as_2 : decode cX7_as 2 = .ok (.invokevirtual 80, 3) := by decide +kernel
theorem dX7_as_5 : decode cX7_as 5 = .ok (.ifCond .eq 6, 3) := by decide +kernel
theorem dX7_as_8 : decode cX7_as 8 = .ok (.bipush (-101), 2) := by decide +kernel
theorem dX7_as_10 : decode cX7_as 10 = .ok (.ireturn, 1) := by decide +kernel
theorem dX7_as_11 : decode cX7_as 11 = .ok (.iload_n 2, 1) := by decide +kernel
theorem dX7_as_12 : decode cX7_as 12 = .ok (.iconst 0, 1) := by decide +kernel
theorem dX7_as_13 : decode cX7_as 13 = .ok (.iconst 4, 1) := by decide +kernel
theorem dX7_as_14 : decode cX7_as 14 = .ok (.invokestatic 72, 3) := by decide +kernel
theorem dX7_as_17 : decode cX7_as 17 = .ok (.ifCond .eq 6, 3) := by decide +kernel
theorem dX7_as_20 : decode cX7_as 20 = .ok (.bipush (-102), 2) := by decide +kernel
theorem dX7_as_22 : decode cX7_as 22 = .ok (.ireturn, 1) := by decide +kernel
theorem dX7_as_23 : decode cX7_as 23 = .ok (.aload_n 0, 1) := by decide +kernel
theorem dX7_as_24 : decode cX7_as 24 = .ok (.getfield 10, 3) := by decide +kernel
theorem dX7_as_27 : decode cX7_as 27 = .ok (.getfield 84, 3) := by decide +kernel
theorem dX7_as_30 : decode cX7_as 30 = .ok (.iload_n 1, 1) := by decide +kernel
theorem dX7_as_31 : decode cX7_as 31 = .ok (.iaload, 1) := by decide +kernel
theorem dX7_as_32 : decode cX7_as 32 = .ok (.istore_n 3, 1) := by decide +kernel
theorem dX7_as_33 : decode cX7_as 33 = .ok (.iload_n 2, 1) := by decide +kernel
theorem dX7_as_34 : decode cX7_as 34 = .ok (.ifCond .eq 18, 3) := by decide +kernel
theorem dX7_as_37 : decode cX7_as 37 = .ok (.iload_n 2, 1) := by decide +kernel
theorem dX7_as_38 : decode cX7_as 38 = .ok (.iload_n 3, 1) := by decide +kernel
theorem dX7_as_39 : decode cX7_as 39 = .ok (.if_icmp .eq 13, 3) := by decide +kernel
theorem dX7_as_42 : decode cX7_as 42 = .ok (.iload_n 2, 1) := by decide +kernel
theorem dX7_as_43 : decode cX7_as 43 = .ok (.iconst 1, 1) := by decide +kernel
theorem dX7_as_44 : decode cX7_as 44 = .ok (.if_icmp .ne 12, 3) := by decide +kernel
theorem dX7_as_47 : decode cX7_as 47 = .ok (.iload_n 3, 1) := by decide +kernel
theorem dX7_as_48 : decode cX7_as 48 = .ok (.iconst 4, 1) := by decide +kernel
theorem dX7_as_49 : decode cX7_as 49 = .ok (.if_icmp .ne 7, 3) := by decide +kernel
theorem dX7_as_52 : decode cX7_as 52 = .ok (.iconst 1, 1) := by decide +kernel
theorem dX7_as_53 : decode cX7_as 53 = .ok (.goto 4, 3) := by decide +kernel
theorem dX7_as_56 : decode cX7_as 56 = .ok (.iconst 0, 1) := by decide +kernel
theorem dX7_as_57 : decode cX7_as 57 = .ok (.istore 4, 2) := by decide +kernel
theorem dX7_as_59 : decode cX7_as 59 = .ok (.iload 4, 2) := by decide +kernel
theorem dX7_as_61 : decode cX7_as 61 = .ok (.ifCond .eq 7, 3) := by decide +kernel
theorem dX7_as_64 : decode cX7_as 64 = .ok (.iload_n 1, 1) := by decide +kernel
theorem dX7_as_65 : decode cX7_as 65 = .ok (.goto 4, 3) := by decide +kernel
theorem dX7_as_68 : decode cX7_as 68 = .ok (.iconst (-1), 1) := by decide +kernel
theorem dX7_as_69 : decode cX7_as 69 = .ok (.ireturn, 1) := by decide +kernel
theorem dX7_shop_0 : decode cX7_shop 0 = .ok (.aload_n 0, 1) := by decide +kernel
theorem dX7_shop_1 : decode cX7_shop 1 = .ok (.iload_n 1, 1) := by decide +kernel
theorem dX7_shop_2 : decode cX7_shop 2 = .ok (.invokevirtual 80, 3) := by decide +kernel
theorem dX7_shop_5 : decode cX7_shop 5 = .ok (.ifCond .eq 6, 3) := by decide +kernel
theorem dX7_shop_8 : decode cX7_shop 8 = .ok (.bipush (-101), 2) := by decide +kernel
theorem dX7_shop_10 : decode cX7_shop 10 = .ok (.ireturn, 1) := by decide +kernel
theorem dX7_shop_11 : decode cX7_shop 11 = .ok (.iload_n 2, 1) := by decide +kernel
theorem dX7_shop_12 : decode cX7_shop 12 = .ok (.iconst 0, 1) := by decide +kernel
theorem dX7_shop_13 : decode cX7_shop 13 = .ok (.bipush 9, 2) := by decide +kernel
theorem dX7_shop_15 : decode cX7_shop 15 = .ok (.invokestatic 72, 3) := by decide +kernel
theorem dX7_shop_18 : decode cX7_shop 18 = .ok (.ifCond .ne 24, 3) := by decide +kernel
theorem dX7_shop_21 : decode cX7_shop 21 = .ok (.iload_n 3, 1) := by decide +kernel
theorem dX7_shop_22 : decode cX7_shop 22 = .ok (.iconst 0, 1) := by decide +kernel
theorem dX7_shop_23 : decode cX7_shop 23 = .ok (.bipush 9, 2) := by decide +kernel
theorem dX7_shop_25 : decode cX7_shop 25 = .ok (.invokestatic 72, 3) := by decide +kernel
theorem dX7_shop_28 : decode cX7_shop 28 = .ok (.ifCond .ne 14, 3) := by decide +kernel
theorem dX7_shop_31 : decode cX7_shop 31 = .ok (.iload 4, 2) := by decide +kernel
theorem dX7_shop_33 : decode cX7_shop 33 = .ok (.iconst 0, 1) := by decide +kernel
theorem dX7_shop_34 : decode cX7_shop 34 = .ok (.bipush 9, 2) := by decide +kernel
theorem dX7_shop_36 : decode cX7_shop 36 = .ok (.invokestatic 72, 3) := by decide +kernel
theorem dX7_shop_39 : decode cX7_shop 39 = .ok (.ifCond .eq 6, 3) := by decide +kernel
theorem dX7_shop_42 : decode cX7_shop 42 = .ok (.bipush (-102), 2) := by decide +kernel
theorem dX7_shop_44 : decode cX7_shop 44 = .ok (.ireturn, 1) := by decide +kernel
theorem dX7_shop_45 : decode cX7_shop 45 = .ok (.aload_n 0, 1) := by decide +kernel
theorem dX7_shop_46 : decode cX7_shop 46 = .ok (.getfield 21, 3) := by decide +kernel
theorem dX7_shop_49 : decode cX7_shop 49 = .ok (.iload_n 1, 1) := by decide +kernel
theorem dX7_shop_50 : decode cX7_shop 50 = .ok (.invokevirtual 88, 3) := by decide +kernel
theorem dX7_shop_53 : decode cX7_shop 53 = .ok (.iconst 3, 1) := by decide +kernel
theorem dX7_shop_54 : decode cX7_shop 54 = .ok (.if_icmp .lt 6, 3) := by decide +kernel
theorem dX7_shop_57 : decode cX7_shop 57 = .ok (.bipush (-104), 2) := by decide +kernel
theorem dX7_shop_59 : decode cX7_shop 59 = .ok (.ireturn, 1) := by decide +kernel
theorem dX7_shop_60 : decode cX7_shop 60 = .ok (.aload_n 0, 1) := by decide +kernel
theorem dX7_shop_61 : decode cX7_shop 61 = .ok (.getfield 10, 3) := by decide +kernel
theorem dX7_shop_64 : decode cX7_shop 64 = .ok (.iload_n 2, 1) := by decide +kernel
theorem dX7_shop_65 : decode cX7_shop 65 = .ok (.iload_n 3, 1) := by decide +kernel
theorem dX7_shop_66 : decode cX7_shop 66 = .ok (.invokevirtual 92, 3) := by decide +kernel
theorem dX7_shop_69 : decode cX7_shop 69 = .ok (.istore 5, 2) := by decide +kernel
theorem dX7_shop_71 : decode cX7_shop 71 = .ok (.iload 5, 2) := by decide +kernel
theorem dX7_shop_73 : decode cX7_shop 73 = .ok (.bipush (-104), 2) := by decide +kernel
theorem dX7_shop_75 : decode cX7_shop 75 = .ok (.if_icmp .eq 26, 3) := by decide +kernel
theorem dX7_shop_78 : decode cX7_shop 78 = .ok (.aload_n 0, 1) := by decide +kernel
theorem dX7_shop_79 : decode cX7_shop 79 = .ok (.getfield 21, 3) := by decide +kernel
theorem dX7_shop_82 : decode cX7_shop 82 = .ok (.getfield 95, 3) := by decide +kernel
theorem dX7_shop_85 : decode cX7_shop 85 = .ok (.iload 5, 2) := by decide +kernel
theorem dX7_shop_87 : decode cX7_shop 87 = .ok (.iload_n 1, 1) := by decide +kernel
theorem dX7_shop_88 : decode cX7_shop 88 = .ok (.iastore, 1) := by decide +kernel
theorem dX7_shop_89 : decode cX7_shop 89 = .ok (.aload_n 0, 1) := by decide +kernel
theorem dX7_shop_90 : decode cX7_shop 90 = .ok (.getfield 21, 3) := by decide +kernel
theorem dX7_shop_93 : decode cX7_shop 93 = .ok (.getfield 98, 3) := by decide +kernel
theorem dX7_shop_96 : decode cX7_shop 96 = .ok (.iload 5, 2) := by decide +kernel
theorem dX7_shop_98 : decode cX7_shop 98 = .ok (.iload 4, 2) := by decide +kernel
theorem dX7_shop_100 : decode cX7_shop 100 = .ok (.iastore, 1) := by decide +kernel
theorem dX7_shop_101 : decode cX7_shop 101 = .ok (.iload 5, 2) := by decide +kernel
theorem dX7_shop_103 : decode cX7_shop 103 = .ok (.ireturn, 1) := by decide +kernel
theorem dX7_isNoShop_0 : decode cX7_isNoShop 0 = .ok (.iload_n 1, 1) := by decide +kernel
theorem dX7_isNoShop_1 : decode cX7_isNoShop 1 = .ok (.iconst 0, 1) := by decide +kernel
theorem dX7_isNoShop_2 : decode cX7_isNoShop 2 = .ok (.aload_n 0, 1) := by decide +kernel
theorem dX7_isNoShop_3 : decode cX7_isNoShop 3 = .ok (.getfield 10, 3) := by decide +kernel
theorem dX7_isNoShop_6 : decode cX7_isNoShop 6 = .ok (.getfield 175, 3) := by decide +kernel
theorem dX7_isNoShop_9 : decode cX7_isNoShop 9 = .ok (.iconst 1, 1) := by decide +kernel
theorem dX7_isNoShop_10 : decode cX7_isNoShop 10 = .ok (.isub, 1) := by decide +kernel
theorem dX7_isNoShop_11 : decode cX7_isNoShop 11 = .ok (.invokestatic 72, 3) := by decide +kernel
theorem dX7_isNoShop_14 : decode cX7_isNoShop 14 = .ok (.ireturn, 1) := by decide +kernel
theorem dX7_about_0 : decode cX7_about 0 = .ok (.aload_n 0, 1) := by decide +kernel
theorem dX7_about_1 : decode cX7_about 1 = .ok (.iload_n 1, 1) := by decide +kernel
theorem dX7_about_2 : decode cX7_about 2 = .ok (.invokevirtual 101, 3) := by decide +kernel
theorem dX7_about_5 : decode cX7_about 5 = .ok (.ifCond .eq 6, 3) := by decide +kernel
theorem dX7_about_8 : decode cX7_about 8 = .ok (.bipush (-101), 2) := by decide +kernel
theorem dX7_about_10 : decode cX7_about 10 = .ok (.ireturn, 1) := by decide +kernel
theorem dX7_about_11 : decode cX7_about 11 = .ok (.iload_n 2, 1) := by decide +kernel
theorem dX7_about_12 : decode cX7_about 12 = .ok (.tableswitch 108 0 5 #[40, 50, 60, 70, 80, 97], 40) := by decide +kernel
theorem dX7_about_52 : decode cX7_about 52 = .ok (.aload_n 0, 1) := by decide +kernel
theorem dX7_about_53 : decode cX7_about 53 = .ok (.getfield 21, 3) := by decide +kernel
theorem dX7_about_56 : decode cX7_about 56 = .ok (.getfield 95, 3) := by decide +kernel
theorem dX7_about_59 : decode cX7_about 59 = .ok (.iload_n 1, 1) := by decide +kernel
theorem dX7_about_60 : decode cX7_about 60 = .ok (.iaload, 1) := by decide +kernel
theorem dX7_about_61 : decode cX7_about 61 = .ok (.ireturn, 1) := by decide +kernel
theorem dX7_about_62 : decode cX7_about 62 = .ok (.aload_n 0, 1) := by decide +kernel
theorem dX7_about_63 : decode cX7_about 63 = .ok (.getfield 10, 3) := by decide +kernel
theorem dX7_about_66 : decode cX7_about 66 = .ok (.getfield 104, 3) := by decide +kernel
theorem dX7_about_69 : decode cX7_about 69 = .ok (.iload_n 1, 1) := by decide +kernel
theorem dX7_about_70 : decode cX7_about 70 = .ok (.iaload, 1) := by decide +kernel
theorem dX7_about_71 : decode cX7_about 71 = .ok (.ireturn, 1) := by decide +kernel
theorem dX7_about_72 : decode cX7_about 72 = .ok (.aload_n 0, 1) := by decide +kernel
theorem dX7_about_73 : decode cX7_about 73 = .ok (.getfield 10, 3) := by decide +kernel
theorem dX7_about_76 : decode cX7_about 76 = .ok (.getfield 107, 3) := by decide +kernel
theorem dX7_about_79 : decode cX7_about 79 = .ok (.iload_n 1, 1) := by decide +kernel
theorem dX7_about_80 : decode cX7_about 80 = .ok (.iaload, 1) := by decide +kernel
theorem dX7_about_81 : decode cX7_about 81 = .ok (.ireturn, 1) := by decide +kernel
theorem dX7_about_82 : decode cX7_about 82 = .ok (.aload_n 0, 1) := by decide +kernel
theorem dX7_about_83 : decode cX7_about 83 = .ok (.getfield 21, 3) := by decide +kernel
theorem dX7_about_86 : decode cX7_about 86 = .ok (.getfield 98, 3) := by decide +kernel
theorem dX7_about_89 : decode cX7_about 89 = .ok (.iload_n 1, 1) := by decide +kernel
theorem dX7_about_90 : decode cX7_about 90 = .ok (.iaload, 1) := by decide +kernel
theorem dX7_about_91 : decode cX7_about 91 = .ok (.ireturn, 1) := by decide +kernel
theorem dX7_about_92 : decode cX7_about 92 = .ok (.aload_n 0, 1) := by decide +kernel
theorem dX7_about_93 : decode cX7_about 93 = .ok (.getfield 21, 3) := by decide +kernel
theorem dX7_about_96 : decode cX7_about 96 = .ok (.iload_n 1, 1) := by decide +kernel
theorem dX7_about_97 : decode cX7_about 97 = .ok (.invokevirtual 110, 3) := by decide +kernel
theorem dX7_about_100 : decode cX7_about 100 = .ok (.ifCond .eq 7, 3) := by decide +kernel
theorem dX7_about_103 : decode cX7_about 103 = .ok (.iconst 1, 1) := by decide +kernel
theorem dX7_about_104 : decode cX7_about 104 = .ok (.goto 4, 3) := by decide +kernel
theorem dX7_about_107 : decode cX7_about 107 = .ok (.iconst 0, 1) := by decide +kernel
theorem dX7_about_108 : decode cX7_about 108 = .ok (.ireturn, 1) := by decide +kernel
theorem dX7_about_109 : decode cX7_about 109 = .ok (.aload_n 0, 1) := by decide +kernel
theorem dX7_about_110 : decode cX7_about 110 = .ok (.getfield 21, 3) := by decide +kernel
theorem dX7_about_113 : decode cX7_about 113 = .ok (.iconst 1, 1) := by decide +kernel
theorem dX7_about_114 : decode cX7_about 114 = .ok (.iload_n 1, 1) := by decide +kernel
theorem dX7_about_115 : decode cX7_about 115 = .ok (.ishl, 1) := by decide +kernel
theorem dX7_about_116 : decode cX7_about 116 = .ok (.invokevirtual 113, 3) := by decide +kernel
theorem dX7_about_119 : decode cX7_about 119 = .ok (.ireturn, 1) := by decide +kernel
theorem dX7_about_120 : decode cX7_about 120 = .ok (.bipush (-102), 2) := by decide +kernel
theorem dX7_about_122 : decode cX7_about 122 = .ok (.ireturn, 1) := by decide +kernel
theorem dX7_price_0 : decode cX7_price 0 = .ok (.aload_n 0, 1) := by decide +kernel
theorem dX7_price_1 : decode cX7_price 1 = .ok (.iload_n 1, 1) := by decide +kernel
theorem dX7_price_2 : decode cX7_price 2 = .ok (.invokevirtual 101, 3) := by decide +kernel
theorem dX7_price_5 : decode cX7_price 5 = .ok (.ifCond .eq 6, 3) := by decide +kernel
theorem dX7_price_8 : decode cX7_price 8 = .ok (.bipush (-101), 2) := by decide +kernel
theorem dX7_price_10 : decode cX7_price 10 = .ok (.ireturn, 1) := by decide +kernel
theorem dX7_price_11 : decode cX7_price 11 = .ok (.iload_n 2, 1) := by decide +kernel
theorem dX7_price_12 : decode cX7_price 12 = .ok (.iconst 0, 1) := by decide +kernel
theorem dX7_price_13 : decode cX7_price 13 = .ok (.bipush 9, 2) := by decide +kernel
theorem dX7_price_15 : decode cX7_price 15 = .ok (.invokestatic 72, 3) := by decide +kernel
theorem dX7_price_18 : decode cX7_price 18 = .ok (.ifCond .eq 6, 3) := by decide +kernel
theorem dX7_price_21 : decode cX7_price 21 = .ok (.bipush (-102), 2) := by decide +kernel
theorem dX7_price_23 : decode cX7_price 23 = .ok (.ireturn, 1) := by decide +kernel
theorem dX7_price_24 : decode cX7_price 24 = .ok (.aload_n 0, 1) := by decide +kernel
theorem dX7_price_25 : decode cX7_price 25 = .ok (.getfield 21, 3) := by decide +kernel
theorem dX7_price_28 : decode cX7_price 28 = .ok (.getfield 98, 3) := by decide +kernel
theorem dX7_price_31 : decode cX7_price 31 = .ok (.iload_n 1, 1) := by decide +kernel
theorem dX7_price_32 : decode cX7_price 32 = .ok (.iaload, 1) := by decide +kernel
theorem dX7_price_33 : decode cX7_price 33 = .ok (.istore_n 3, 1) := by decide +kernel
theorem dX7_price_34 : decode cX7_price 34 = .ok (.aload_n 0, 1) := by decide +kernel
theorem dX7_price_35 : decode cX7_price 35 = .ok (.getfield 21, 3) := by decide +kernel
theorem dX7_price_38 : decode cX7_price 38 = .ok (.getfield 98, 3) := by decide +kernel
theorem dX7_price_41 : decode cX7_price 41 = .ok (.iload_n 1, 1) := by decide +kernel
theorem dX7_price_42 : decode cX7_price 42 = .ok (.iload_n 2, 1) := by decide +kernel
theorem dX7_price_43 : decode cX7_price 43 = .ok (.iastore, 1) := by decide +kernel
theorem dX7_price_44 : decode cX7_price 44 = .ok (.iload_n 3, 1) := by decide +kernel
theorem dX7_price_45 : decode cX7_price 45 = .ok (.ireturn, 1) := by decide +kernel
theorem dX7_sort_0 : decode cX7_sort 0 = .ok (.iload_n 1, 1) := by decide +kernel
theorem dX7_sort_1 : decode cX7_sort 1 = .ok (.iconst 0, 1) := by decide +kernel
theorem dX7_sort_2 : decode cX7_sort 2 = .ok (.bipush 9, 2) := by decide +kernel
theorem dX7_sort_4 : decode cX7_sort 4 = .ok (.invokestatic 72, 3) := by decide +kernel
theorem dX7_sort_7 : decode cX7_sort 7 = .ok (.ifCond .ne 44, 3) := by decide +kernel
theorem dX7_sort_10 : decode cX7_sort 10 = .ok (.iload_n 2, 1) := by decide +kernel
theorem dX7_sort_11 : decode cX7_sort 11 = .ok (.iconst 1, 1) := by decide +kernel
theorem dX7_sort_12 : decode cX7_sort 12 = .ok (.bipush 50, 2) := by decide +kernel
theorem dX7_sort_14 : decode cX7_sort 14 = .ok (.invokestatic 72, 3) := by decide +kernel
theorem dX7_sort_17 : decode cX7_sort 17 = .ok (.ifCond .ne 34, 3) := by decide +kernel
theorem dX7_sort_20 : decode cX7_sort 20 = .ok (.iload_n 3, 1) := by decide +kernel
theorem dX7_sort_21 : decode cX7_sort 21 = .ok (.iconst 0, 1) := by decide +kernel
theorem dX7_sort_22 : decode cX7_sort 22 = .ok (.iconst 5, 1) := by decide +kernel
theorem dX7_sort_23 : decode cX7_sort 23 = .ok (.invokestatic 72, 3) := by decide +kernel
theorem dX7_sort_26 : decode cX7_sort 26 = .ok (.ifCond .ne 25, 3) := by decide +kernel
theorem dX7_sort_29 : decode cX7_sort 29 = .ok (.iload 4, 2) := by decide +kernel
theorem dX7_sort_31 : decode cX7_sort 31 = .ok (.iconst 0, 1) := by decide +kernel
theorem dX7_sort_32 : decode cX7_sort 32 = .ok (.bipush 30, 2) := by decide +kernel
theorem dX7_sort_34 : decode cX7_sort 34 = .ok (.invokestatic 72, 3) := by decide +kernel
theorem dX7_sort_37 : decode cX7_sort 37 = .ok (.ifCond .ne 14, 3) := by decide +kernel
theorem dX7_sort_40 : decode cX7_sort 40 = .ok (.iload 6, 2) := by decide +kernel
theorem dX7_sort_42 : decode cX7_sort 42 = .ok (.iconst 0, 1) := by decide +kernel
theorem dX7_sort_43 : decode cX7_sort 43 = .ok (.bipush 9, 2) := by decide +kernel
theorem dX7_sort_45 : decode cX7_sort 45 = .ok (.invokestatic 72, 3) := by decide +kernel
theorem dX7_sort_48 : decode cX7_sort 48 = .ok (.ifCond .eq 6, 3) := by decide +kernel
theorem dX7_sort_51 : decode cX7_sort 51 = .ok (.bipush (-102), 2) := by decide +kernel
theorem dX7_sort_53 : decode cX7_sort 53 = .ok (.ireturn, 1) := by decide +kernel
theorem dX7_sort_54 : decode cX7_sort 54 = .ok (.iload 5, 2) := by decide +kernel
theorem dX7_sort_56 : decode cX7_sort 56 = .ok (.iconst (-1), 1) := by decide +kernel
theorem dX7_sort_57 : decode cX7_sort 57 = .ok (.if_icmp .eq 15, 3) := by decide +kernel
theorem dX7_sort_60 : decode cX7_sort 60 = .ok (.aload_n 0, 1) := by decide +kernel
theorem dX7_sort_61 : decode cX7_sort 61 = .ok (.iload 5, 2) := by decide +kernel
theorem dX7_sort_63 : decode cX7_sort 63 = .ok (.invokevirtual 101, 3) := by decide +kernel
theorem dX7_sort_66 : decode cX7_sort 66 = .ok (.ifCond .eq 6, 3) := by decide +kernel
theorem dX7_sort_69 : decode cX7_sort 69 = .ok (.bipush (-101), 2) := by decide +kernel
theorem dX7_sort_71 : decode cX7_sort 71 = .ok (.ireturn, 1) := by decide +kernel
theorem dX7_sort_72 : decode cX7_sort 72 = .ok (.aload_n 0, 1) := by decide +kernel
theorem dX7_sort_73 : decode cX7_sort 73 = .ok (.getfield 10, 3) := by decide +kernel
theorem dX7_sort_76 : decode cX7_sort 76 = .ok (.iload_n 1, 1) := by decide +kernel
theorem dX7_sort_77 : decode cX7_sort 77 = .ok (.iload_n 2, 1) := by decide +kernel
theorem dX7_sort_78 : decode cX7_sort 78 = .ok (.iload_n 3, 1) := by decide +kernel
theorem dX7_sort_79 : decode cX7_sort 79 = .ok (.iload 4, 2) := by decide +kernel
theorem dX7_sort_81 : decode cX7_sort 81 = .ok (.iload 5, 2) := by decide +kernel
theorem dX7_sort_83 : decode cX7_sort 83 = .ok (.iload 6, 2) := by decide +kernel
theorem dX7_sort_85 : decode cX7_sort 85 = .ok (.invokevirtual 116, 3) := by decide +kernel
theorem dX7_sort_88 : decode cX7_sort 88 = .ok (.ireturn, 1) := by decide +kernel
theorem dX7_isNoSort_0 : decode cX7_isNoSort 0 = .ok (.iload_n 1, 1) := by decide +kernel
theorem dX7_isNoSort_1 : decode cX7_isNoSort 1 = .ok (.iconst 0, 1) := by decide +kernel
theorem dX7_isNoSort_2 : decode cX7_isNoSort 2 = .ok (.aload_n 0, 1) := by decide +kernel
theorem dX7_isNoSort_3 : decode cX7_isNoSort 3 = .ok (.getfield 10, 3) := by decide +kernel
theorem dX7_isNoSort_6 : decode cX7_isNoSort 6 = .ok (.getfield 202, 3) := by decide +kernel
theorem dX7_isNoSort_9 : decode cX7_isNoSort 9 = .ok (.iconst 1, 1) := by decide +kernel
theorem dX7_isNoSort_10 : decode cX7_isNoSort 10 = .ok (.isub, 1) := by decide +kernel
theorem dX7_isNoSort_11 : decode cX7_isNoSort 11 = .ok (.invokestatic 72, 3) := by decide +kernel
theorem dX7_isNoSort_14 : decode cX7_isNoSort 14 = .ok (.ireturn, 1) := by decide +kernel
theorem dX7_is_0 : decode cX7_is 0 = .ok (.aload_n 0, 1) := by decide +kernel
theorem dX7_is_1 : decode cX7_is 1 = .ok (.iload_n 1, 1) := by decide +kernel
theorem dX7_is_2 : decode cX7_is 2 = .ok (.invokevirtual 120, 3) := by decide +kernel
theorem dX7_is_5 : decode cX7_is 5 = .ok (.ifCond .ne 11, 3) := by decide +kernel
theorem dX7_is_8 : decode cX7_is 8 = .ok (.aload_n 0, 1) := by decide +kernel
theorem dX7_is_9 : decode cX7_is 9 = .ok (.iload_n 2, 1) := by decide +kernel
theorem dX7_is_10 : decode cX7_is 10 = .ok (.invokevirtual 101, 3) := by decide +kernel
theorem dX7_is_13 : decode cX7_is 13 = .ok (.ifCond .eq 9, 3) := by decide +kernel
theorem dX7_is_16 : decode cX7_is 16 = .ok (.sipush (-1001), 3) := by decide +kernel
theorem dX7_is_19 : decode cX7_is 19 = .ok (.goto 12, 3) := by decide +kernel
theorem dX7_is_22 : decode cX7_is 22 = .ok (.aload_n 0, 1) := by decide +kernel
theorem dX7_is_23 : decode cX7_is 23 = .ok (.getfield 21, 3) := by decide +kernel
theorem dX7_is_26 : decode cX7_is 26 = .ok (.iload_n 1, 1) := by decide +kernel
theorem dX7_is_27 : decode cX7_is 27 = .ok (.iload_n 2, 1) := by decide +kernel
theorem dX7_is_28 : decode cX7_is 28 = .ok (.invokevirtual 123, 3) := by decide +kernel
theorem dX7_is_31 : decode cX7_is 31 = .ok (.ireturn, 1) := by decide +kernel
theorem dX7_goes_0 : decode cX7_goes 0 = .ok (.aload_n 0, 1) := by decide +kernel
theorem dX7_goes_1 : decode cX7_goes 1 = .ok (.iload_n 1, 1) := by decide +kernel
theorem dX7_goes_2 : decode cX7_goes 2 = .ok (.invokevirtual 120, 3) := by decide +kernel
theorem dX7_goes_5 : decode cX7_goes 5 = .ok (.ifCond .eq 8, 3) := by decide +kernel
theorem dX7_goes_8 : decode cX7_goes 8 = .ok (.bipush (-101), 2) := by decide +kernel
theorem dX7_goes_10 : decode cX7_goes 10 = .ok (.goto 12, 3) := by decide +kernel
theorem dX7_goes_13 : decode cX7_goes 13 = .ok (.aload_n 0, 1) := by decide +kernel
theorem dX7_goes_14 : decode cX7_goes 14 = .ok (.getfield 21, 3) := by decide +kernel
theorem dX7_goes_17 : decode cX7_goes 17 = .ok (.iload_n 1, 1) := by decide +kernel
theorem dX7_goes_18 : decode cX7_goes 18 = .ok (.iconst (-1), 1) := by decide +kernel
theorem dX7_goes_19 : decode cX7_goes 19 = .ok (.invokevirtual 126, 3) := by decide +kernel
theorem dX7_goes_22 : decode cX7_goes 22 = .ok (.ireturn, 1) := by decide +kernel
theorem dX7_spare_0 : decode cX7_spare 0 = .ok (.aload_n 0, 1) := by decide +kernel
theorem dX7_spare_1 : decode cX7_spare 1 = .ok (.iload_n 1, 1) := by decide +kernel
theorem dX7_spare_2 : decode cX7_spare 2 = .ok (.invokevirtual 120, 3) := by decide +kernel
theorem dX7_spare_5 : decode cX7_spare 5 = .ok (.ifCond .eq 8, 3) := by decide +kernel
theorem dX7_spare_8 : decode cX7_spare 8 = .ok (.bipush (-101), 2) := by decide +kernel
theorem dX7_spare_10 : decode cX7_spare 10 = .ok (.goto 11, 3) := by decide +kernel
theorem dX7_spare_13 : decode cX7_spare 13 = .ok (.aload_n 0, 1) := by decide +kernel
theorem dX7_spare_14 : decode cX7_spare 14 = .ok (.getfield 21, 3) := by decide +kernel
theorem dX7_spare_17 : decode cX7_spare 17 = .ok (.iload_n 1, 1) := by decide +kernel
theorem dX7_spare_18 : decode cX7_spare 18 = .ok (.invokevirtual 129, 3) := by decide +kernel
theorem dX7_spare_21 : decode cX7_spare 21 = .ok (.ireturn, 1) := by decide +kernel
theorem dX7_profit_0 : decode cX7_profit 0 = .ok (.aload_n 0, 1) := by decide +kernel
theorem dX7_profit_1 : decode cX7_profit 1 = .ok (.iload_n 1, 1) := by decide +kernel
theorem dX7_profit_2 : decode cX7_profit 2 = .ok (.invokevirtual 80, 3) := by decide +kernel
theorem dX7_profit_5 : decode cX7_profit 5 = .ok (.ifCond .eq 8, 3) := by decide +kernel
theorem dX7_profit_8 : decode cX7_profit 8 = .ok (.ldc 132, 2) := by decide +kernel
theorem dX7_profit_10 : decode cX7_profit 10 = .ok (.goto 11, 3) := by decide +kernel
theorem dX7_profit_13 : decode cX7_profit 13 = .ok (.aload_n 0, 1) := by decide +kernel
theorem dX7_profit_14 : decode cX7_profit 14 = .ok (.getfield 21, 3) := by decide +kernel
theorem dX7_profit_17 : decode cX7_profit 17 = .ok (.iload_n 1, 1) := by decide +kernel
theorem dX7_profit_18 : decode cX7_profit 18 = .ok (.invokevirtual 133, 3) := by decide +kernel
theorem dX7_profit_21 : decode cX7_profit 21 = .ok (.ireturn, 1) := by decide +kernel
theorem dX7_best_0 : decode cX7_best 0 = .ok (.aload_n 0, 1) := by decide +kernel
theorem dX7_best_1 : decode cX7_best 1 = .ok (.iload_n 1, 1) := by decide +kernel
theorem dX7_best_2 : decode cX7_best 2 = .ok (.invokevirtual 101, 3) := by decide +kernel
theorem dX7_best_5 : decode cX7_best 5 = .ok (.ifCond .eq 6, 3) := by decide +kernel
theorem dX7_best_8 : decode cX7_best 8 = .ok (.bipush (-101), 2) := by decide +kernel
theorem dX7_best_10 : decode cX7_best 10 = .ok (.ireturn, 1) := by decide +kernel
theorem dX7_best_11 : decode cX7_best 11 = .ok (.iload_n 2, 1) := by decide +kernel
theorem dX7_best_12 : decode cX7_best 12 = .ok (.iconst 0, 1) := by decide +kernel
theorem dX7_best_13 : decode cX7_best 13 = .ok (.iconst 1, 1) := by decide +kernel
theorem dX7_best_14 : decode cX7_best 14 = .ok (.invokestatic 72, 3) := by decide +kernel
theorem dX7_best_17 : decode cX7_best 17 = .ok (.ifCond .eq 6, 3) := by decide +kernel
theorem dX7_best_20 : decode cX7_best 20 = .ok (.bipush (-102), 2) := by decide +kernel
theorem dX7_best_22 : decode cX7_best 22 = .ok (.ireturn, 1) := by decide +kernel
theorem dX7_best_23 : decode cX7_best 23 = .ok (.aload_n 0, 1) := by decide +kernel
theorem dX7_best_24 : decode cX7_best 24 = .ok (.getfield 21, 3) := by decide +kernel
theorem dX7_best_27 : decode cX7_best 27 = .ok (.getfield 95, 3) := by decide +kernel
theorem dX7_best_30 : decode cX7_best 30 = .ok (.iload_n 1, 1) := by decide +kernel
theorem dX7_best_31 : decode cX7_best 31 = .ok (.iaload, 1) := by decide +kernel
theorem dX7_best_32 : decode cX7_best 32 = .ok (.istore_n 3, 1) := by decide +kernel
theorem dX7_best_33 : decode cX7_best 33 = .ok (.aload_n 0, 1) := by decide +kernel
theorem dX7_best_34 : decode cX7_best 34 = .ok (.getfield 34, 3) := by decide +kernel
theorem dX7_best_37 : decode cX7_best 37 = .ok (.aload_n 0, 1) := by decide +kernel
theorem dX7_best_38 : decode cX7_best 38 = .ok (.getfield 21, 3) := by decide +kernel
theorem dX7_best_41 : decode cX7_best 41 = .ok (.iload_n 3, 1) := by decide +kernel
theorem dX7_best_42 : decode cX7_best 42 = .ok (.invokevirtual 136, 3) := by decide +kernel
theorem dX7_best_45 : decode cX7_best 45 = .ok (.iload_n 2, 1) := by decide +kernel
theorem dX7_best_46 : decode cX7_best 46 = .ok (.ifCond .ne 12, 3) := by decide +kernel
theorem dX7_best_49 : decode cX7_best 49 = .ok (.aload_n 0, 1) := by decide +kernel
theorem dX7_best_50 : decode cX7_best 50 = .ok (.getfield 34, 3) := by decide +kernel
theorem dX7_best_53 : decode cX7_best 53 = .ok (.iload_n 1, 1) := by decide +kernel
theorem dX7_best_54 : decode cX7_best 54 = .ok (.invokevirtual 140, 3) := by decide +kernel
theorem dX7_best_57 : decode cX7_best 57 = .ok (.ireturn, 1) := by decide +kernel
theorem dX7_best_58 : decode cX7_best 58 = .ok (.aload_n 0, 1) := by decide +kernel
theorem dX7_best_59 : decode cX7_best 59 = .ok (.getfield 10, 3) := by decide +kernel
theorem dX7_best_62 : decode cX7_best 62 = .ok (.getfield 84, 3) := by decide +kernel
theorem dX7_best_65 : decode cX7_best 65 = .ok (.iload_n 3, 1) := by decide +kernel
theorem dX7_best_66 : decode cX7_best 66 = .ok (.iaload, 1) := by decide +kernel
theorem dX7_best_67 : decode cX7_best 67 = .ok (.iconst 4, 1) := by decide +kernel
theorem dX7_best_68 : decode cX7_best 68 = .ok (.if_icmp .ne 13, 3) := by decide +kernel
theorem dX7_best_71 : decode cX7_best 71 = .ok (.aload_n 0, 1) := by decide +kernel
theorem dX7_best_72 : decode cX7_best 72 = .ok (.getfield 34, 3) := by decide +kernel
theorem dX7_best_75 : decode cX7_best 75 = .ok (.getfield 143, 3) := by decide +kernel
theorem dX7_best_78 : decode cX7_best 78 = .ok (.ifCond .eq 7, 3) := by decide +kernel
theorem dX7_best_81 : decode cX7_best 81 = .ok (.iconst 1, 1) := by decide +kernel
theorem dX7_best_82 : decode cX7_best 82 = .ok (.goto 4, 3) := by decide +kernel
theorem dX7_best_85 : decode cX7_best 85 = .ok (.iconst 0, 1) := by decide +kernel
theorem dX7_best_86 : decode cX7_best 86 = .ok (.ireturn, 1) := by decide +kernel
theorem dX7_turn_0 : decode cX7_turn 0 = .ok (.aload_n 0, 1) := by decide +kernel
theorem dX7_turn_1 : decode cX7_turn 1 = .ok (.iload_n 1, 1) := by decide +kernel
theorem dX7_turn_2 : decode cX7_turn 2 = .ok (.invokevirtual 80, 3) := by decide +kernel
theorem dX7_turn_5 : decode cX7_turn 5 = .ok (.ifCond .eq 6, 3) := by decide +kernel
theorem dX7_turn_8 : decode cX7_turn 8 = .ok (.bipush (-101), 2) := by decide +kernel
theorem dX7_turn_10 : decode cX7_turn 10 = .ok (.ireturn, 1) := by decide +kernel
theorem dX7_turn_11 : decode cX7_turn 11 = .ok (.aload_n 0, 1) := by decide +kernel
theorem dX7_turn_12 : decode cX7_turn 12 = .ok (.getfield 34, 3) := by decide +kernel
theorem dX7_turn_15 : decode cX7_turn 15 = .ok (.aload_n 0, 1) := by decide +kernel
theorem dX7_turn_16 : decode cX7_turn 16 = .ok (.getfield 21, 3) := by decide +kernel
theorem dX7_turn_19 : decode cX7_turn 19 = .ok (.iload_n 1, 1) := by decide +kernel
theorem dX7_turn_20 : decode cX7_turn 20 = .ok (.invokevirtual 136, 3) := by decide +kernel
theorem dX7_turn_23 : decode cX7_turn 23 = .ok (.aload_n 0, 1) := by decide +kernel
theorem dX7_turn_24 : decode cX7_turn 24 = .ok (.getfield 34, 3) := by decide +kernel
theorem dX7_turn_27 : decode cX7_turn 27 = .ok (.aload_n 0, 1) := by decide +kernel
theorem dX7_turn_28 : decode cX7_turn 28 = .ok (.getfield 21, 3) := by decide +kernel
theorem dX7_turn_31 : decode cX7_turn 31 = .ok (.iload_n 1, 1) := by decide +kernel
theorem dX7_turn_32 : decode cX7_turn 32 = .ok (.invokevirtual 147, 3) := by decide +kernel
theorem dX7_turn_35 : decode cX7_turn 35 = .ok (.ireturn, 1) := by decide +kernel
theorem dX7_rest_0 : decode cX7_rest 0 = .ok (.aload_n 0, 1) := by decide +kernel
theorem dX7_rest_1 : decode cX7_rest 1 = .ok (.getfield 25, 3) := by decide +kernel
theorem dX7_rest_4 : decode cX7_rest 4 = .ok (.aload_n 0, 1) := by decide +kernel
theorem dX7_rest_5 : decode cX7_rest 5 = .ok (.getfield 21, 3) := by decide +kernel
theorem dX7_rest_8 : decode cX7_rest 8 = .ok (.invokevirtual 151, 3) := by decide +kernel
theorem dX7_rest_11 : decode cX7_rest 11 = .ok (.aload_n 0, 1) := by decide +kernel
theorem dX7_rest_12 : decode cX7_rest 12 = .ok (.getfield 34, 3) := by decide +kernel
theorem dX7_rest_15 : decode cX7_rest 15 = .ok (.aload_n 0, 1) := by decide +kernel
theorem dX7_rest_16 : decode cX7_rest 16 = .ok (.getfield 25, 3) := by decide +kernel
theorem dX7_rest_19 : decode cX7_rest 19 = .ok (.invokevirtual 155, 3) := by decide +kernel
theorem dX7_rest_22 : decode cX7_rest 22 = .ok (.istore_n 1, 1) := by decide +kernel
theorem dX7_rest_23 : decode cX7_rest 23 = .ok (.iload_n 1, 1) := by decide +kernel
theorem dX7_rest_24 : decode cX7_rest 24 = .ok (.iconst (-1), 1) := by decide +kernel
theorem dX7_rest_25 : decode cX7_rest 25 = .ok (.if_icmp .ne 6, 3) := by decide +kernel
theorem dX7_rest_28 : decode cX7_rest 28 = .ok (.bipush (-103), 2) := by decide +kernel
theorem dX7_rest_30 : decode cX7_rest 30 = .ok (.ireturn, 1) := by decide +kernel
theorem dX7_rest_31 : decode cX7_rest 31 = .ok (.aload_n 0, 1) := by decide +kernel
theorem dX7_rest_32 : decode cX7_rest 32 = .ok (.getfield 21, 3) := by decide +kernel
theorem dX7_rest_35 : decode cX7_rest 35 = .ok (.aload_n 0, 1) := by decide +kernel
theorem dX7_rest_36 : decode cX7_rest 36 = .ok (.getfield 25, 3) := by decide +kernel
theorem dX7_rest_39 : decode cX7_rest 39 = .ok (.invokevirtual 151, 3) := by decide +kernel
theorem dX7_rest_42 : decode cX7_rest 42 = .ok (.iload_n 1, 1) := by decide +kernel
theorem dX7_rest_43 : decode cX7_rest 43 = .ok (.ireturn, 1) := by decide +kernel
theorem dX7_gainOf_0 : decode cX7_gainOf 0 = .ok (.aload_n 0, 1) := by decide +kernel
theorem dX7_gainOf_1 : decode cX7_gainOf 1 = .ok (.getfield 34, 3) := by decide +kernel
theorem dX7_gainOf_4 : decode cX7_gainOf 4 = .ok (.aload_n 0, 1) := by decide +kernel
theorem dX7_gainOf_5 : decode cX7_gainOf 5 = .ok (.getfield 21, 3) := by decide +kernel
theorem dX7_gainOf_8 : decode cX7_gainOf 8 = .ok (.iload_n 1, 1) := by decide +kernel
theorem dX7_gainOf_9 : decode cX7_gainOf 9 = .ok (.invokevirtual 136, 3) := by decide +kernel
theorem dX7_gainOf_12 : decode cX7_gainOf 12 = .ok (.aload_n 0, 1) := by decide +kernel
theorem dX7_gainOf_13 : decode cX7_gainOf 13 = .ok (.getfield 34, 3) := by decide +kernel
theorem dX7_gainOf_16 : decode cX7_gainOf 16 = .ok (.getfield 166, 3) := by decide +kernel
theorem dX7_gainOf_19 : decode cX7_gainOf 19 = .ok (.aload_n 0, 1) := by decide +kernel
theorem dX7_gainOf_20 : decode cX7_gainOf 20 = .ok (.getfield 21, 3) := by decide +kernel
theorem dX7_gainOf_23 : decode cX7_gainOf 23 = .ok (.iload_n 1, 1) := by decide +kernel
theorem dX7_gainOf_24 : decode cX7_gainOf 24 = .ok (.invokevirtual 133, 3) := by decide +kernel
theorem dX7_gainOf_27 : decode cX7_gainOf 27 = .ok (.isub, 1) := by decide +kernel
theorem dX7_gainOf_28 : decode cX7_gainOf 28 = .ok (.ireturn, 1) := by decide +kernel
theorem dX7_otherwise_0 : decode cX7_otherwise 0 = .ok (.iconst 0, 1) := by decide +kernel
theorem dX7_otherwise_1 : decode cX7_otherwise 1 = .ok (.istore_n 1, 1) := by decide +kernel
theorem dX7_otherwise_2 : decode cX7_otherwise 2 = .ok (.iload_n 1, 1) := by decide +kernel
theorem dX7_otherwise_3 : decode cX7_otherwise 3 = .ok (.aload_n 0, 1) := by decide +kernel
theorem dX7_otherwise_4 : decode cX7_otherwise 4 = .ok (.getfield 10, 3) := by decide +kernel
theorem dX7_otherwise_7 : decode cX7_otherwise 7 = .ok (.getfield 159, 3) := by decide +kernel
theorem dX7_otherwise_10 : decode cX7_otherwise 10 = .ok (.if_icmp .ge 19, 3) := by decide +kernel
theorem dX7_otherwise_13 : decode cX7_otherwise 13 = .ok (.aload_n 0, 1) := by decide +kernel
theorem dX7_otherwise_14 : decode cX7_otherwise 14 = .ok (.iload_n 1, 1) := by decide +kernel
theorem dX7_otherwise_15 : decode cX7_otherwise 15 = .ok (.invokevirtual 163, 3) := by decide +kernel
theorem dX7_otherwise_18 : decode cX7_otherwise 18 = .ok (.ifCond .le 5, 3) := by decide +kernel
theorem dX7_otherwise_21 : decode cX7_otherwise 21 = .ok (.iload_n 1, 1) := by decide +kernel
theorem dX7_otherwise_22 : decode cX7_otherwise 22 = .ok (.ireturn, 1) := by decide +kernel
theorem dX7_otherwise_23 : decode cX7_otherwise 23 = .ok (.iinc 1 1, 3) := by decide +kernel
theorem dX7_otherwise_26 : decode cX7_otherwise 26 = .ok (.goto (-24), 3) := by decide +kernel
theorem dX7_otherwise_29 : decode cX7_otherwise 29 = .ok (.iconst (-1), 1) := by decide +kernel
theorem dX7_otherwise_30 : decode cX7_otherwise 30 = .ok (.ireturn, 1) := by decide +kernel
theorem dX7_gain_0 : decode cX7_gain 0 = .ok (.aload_n 0, 1) := by decide +kernel
theorem dX7_gain_1 : decode cX7_gain 1 = .ok (.iload_n 1, 1) := by decide +kernel
theorem dX7_gain_2 : decode cX7_gain 2 = .ok (.invokevirtual 80, 3) := by decide +kernel
theorem dX7_gain_5 : decode cX7_gain 5 = .ok (.ifCond .eq 8, 3) := by decide +kernel
theorem dX7_gain_8 : decode cX7_gain 8 = .ok (.ldc 132, 2) := by decide +kernel
theorem dX7_gain_10 : decode cX7_gain 10 = .ok (.goto 8, 3) := by decide +kernel
theorem dX7_gain_13 : decode cX7_gain 13 = .ok (.aload_n 0, 1) := by decide +kernel
theorem dX7_gain_14 : decode cX7_gain 14 = .ok (.iload_n 1, 1) := by decide +kernel
theorem dX7_gain_15 : decode cX7_gain 15 = .ok (.invokevirtual 163, 3) := by decide +kernel
theorem dX7_gain_18 : decode cX7_gain 18 = .ok (.ireturn, 1) := by decide +kernel
theorem dX7_wouldPay_0 : decode cX7_wouldPay 0 = .ok (.aload_n 0, 1) := by decide +kernel
theorem dX7_wouldPay_1 : decode cX7_wouldPay 1 = .ok (.getfield 25, 3) := by decide +kernel
theorem dX7_wouldPay_4 : decode cX7_wouldPay 4 = .ok (.aload_n 0, 1) := by decide +kernel
theorem dX7_wouldPay_5 : decode cX7_wouldPay 5 = .ok (.getfield 21, 3) := by decide +kernel
theorem dX7_wouldPay_8 : decode cX7_wouldPay 8 = .ok (.invokevirtual 151, 3) := by decide +kernel
theorem dX7_wouldPay_11 : decode cX7_wouldPay 11 = .ok (.iconst 0, 1) := by decide +kernel
theorem dX7_wouldPay_12 : decode cX7_wouldPay 12 = .ok (.istore_n 3, 1) := by decide +kernel
theorem dX7_wouldPay_13 : decode cX7_wouldPay 13 = .ok (.iload_n 3, 1) := by decide +kernel
theorem dX7_wouldPay_14 : decode cX7_wouldPay 14 = .ok (.aload_n 0, 1) := by decide +kernel
theorem dX7_wouldPay_15 : decode cX7_wouldPay 15 = .ok (.getfield 10, 3) := by decide +kernel
theorem dX7_wouldPay_18 : decode cX7_wouldPay 18 = .ok (.getfield 175, 3) := by decide +kernel
theorem dX7_wouldPay_21 : decode cX7_wouldPay 21 = .ok (.if_icmp .ge 43, 3) := by decide +kernel
theorem dX7_wouldPay_24 : decode cX7_wouldPay 24 = .ok (.iload_n 1, 1) := by decide +kernel
theorem dX7_wouldPay_25 : decode cX7_wouldPay 25 = .ok (.iload_n 3, 1) := by decide +kernel
theorem dX7_wouldPay_26 : decode cX7_wouldPay 26 = .ok (.ishr, 1) := by decide +kernel
theorem dX7_wouldPay_27 : decode cX7_wouldPay 27 = .ok (.iconst 1, 1) := by decide +kernel
theorem dX7_wouldPay_28 : decode cX7_wouldPay 28 = .ok (.iand, 1) := by decide +kernel
theorem dX7_wouldPay_29 : decode cX7_wouldPay 29 = .ok (.iconst 1, 1) := by decide +kernel
theorem dX7_wouldPay_30 : decode cX7_wouldPay 30 = .ok (.if_icmp .ne 28, 3) := by decide +kernel
theorem dX7_wouldPay_33 : decode cX7_wouldPay 33 = .ok (.aload_n 0, 1) := by decide +kernel
theorem dX7_wouldPay_34 : decode cX7_wouldPay 34 = .ok (.getfield 25, 3) := by decide +kernel
theorem dX7_wouldPay_37 : decode cX7_wouldPay 37 = .ok (.getfield 98, 3) := by decide +kernel
theorem dX7_wouldPay_40 : decode cX7_wouldPay 40 = .ok (.iload_n 3, 1) := by decide +kernel
theorem dX7_wouldPay_41 : decode cX7_wouldPay 41 = .ok (.bipush 9, 2) := by decide +kernel
theorem dX7_wouldPay_43 : decode cX7_wouldPay 43 = .ok (.aload_n 0, 1) := by decide +kernel
theorem dX7_wouldPay_44 : decode cX7_wouldPay 44 = .ok (.getfield 21, 3) := by decide +kernel
theorem dX7_wouldPay_47 : decode cX7_wouldPay 47 = .ok (.getfield 98, 3) := by decide +kernel
theorem dX7_wouldPay_50 : decode cX7_wouldPay 50 = .ok (.iload_n 3, 1) := by decide +kernel
theorem dX7_wouldPay_51 : decode cX7_wouldPay 51 = .ok (.iaload, 1) := by decide +kernel
theorem dX7_wouldPay_52 : decode cX7_wouldPay 52 = .ok (.iload_n 2, 1) := by decide +kernel
theorem dX7_wouldPay_53 : decode cX7_wouldPay 53 = .ok (.iadd, 1) := by decide +kernel
theorem dX7_wouldPay_54 : decode cX7_wouldPay 54 = .ok (.invokestatic 194, 3) := by decide +kernel
theorem dX7_wouldPay_57 : decode cX7_wouldPay 57 = .ok (.iastore, 1) := by decide +kernel
theorem dX7_wouldPay_58 : decode cX7_wouldPay 58 = .ok (.iinc 3 1, 3) := by decide +kernel
theorem dX7_wouldPay_61 : decode cX7_wouldPay 61 = .ok (.goto (-48), 3) := by decide +kernel
theorem dX7_wouldPay_64 : decode cX7_wouldPay 64 = .ok (.aload_n 0, 1) := by decide +kernel
theorem dX7_wouldPay_65 : decode cX7_wouldPay 65 = .ok (.getfield 25, 3) := by decide +kernel
theorem dX7_wouldPay_68 : decode cX7_wouldPay 68 = .ok (.iload_n 1, 1) := by decide +kernel
theorem dX7_wouldPay_69 : decode cX7_wouldPay 69 = .ok (.invokevirtual 199, 3) := by decide +kernel
theorem dX7_wouldPay_72 : decode cX7_wouldPay 72 = .ok (.aload_n 0, 1) := by decide +kernel
theorem dX7_wouldPay_73 : decode cX7_wouldPay 73 = .ok (.getfield 21, 3) := by decide +kernel
theorem dX7_wouldPay_76 : decode cX7_wouldPay 76 = .ok (.iload_n 1, 1) := by decide +kernel
theorem dX7_wouldPay_77 : decode cX7_wouldPay 77 = .ok (.invokevirtual 199, 3) := by decide +kernel
theorem dX7_wouldPay_80 : decode cX7_wouldPay 80 = .ok (.if_icmp .lt 7, 3) := by decide +kernel
theorem dX7_wouldPay_83 : decode cX7_wouldPay 83 = .ok (.iconst 1, 1) := by decide +kernel
theorem dX7_wouldPay_84 : decode cX7_wouldPay 84 = .ok (.goto 4, 3) := by decide +kernel
theorem dX7_wouldPay_87 : decode cX7_wouldPay 87 = .ok (.iconst 0, 1) := by decide +kernel
theorem dX7_wouldPay_88 : decode cX7_wouldPay 88 = .ok (.ireturn, 1) := by decide +kernel
theorem dX7_leastMarket_0 : decode cX7_leastMarket 0 = .ok (.aload_n 0, 1) := by decide +kernel
theorem dX7_leastMarket_1 : decode cX7_leastMarket 1 = .ok (.getfield 21, 3) := by decide +kernel
theorem dX7_leastMarket_4 : decode cX7_leastMarket 4 = .ok (.invokevirtual 185, 3) := by decide +kernel
theorem dX7_leastMarket_7 : decode cX7_leastMarket 7 = .ok (.istore_n 3, 1) := by decide +kernel
theorem dX7_leastMarket_8 : decode cX7_leastMarket 8 = .ok (.iconst 1, 1) := by decide +kernel
theorem dX7_leastMarket_9 : decode cX7_leastMarket 9 = .ok (.istore 4, 2) := by decide +kernel
theorem dX7_leastMarket_11 : decode cX7_leastMarket 11 = .ok (.iload 4, 2) := by decide +kernel
theorem dX7_leastMarket_13 : decode cX7_leastMarket 13 = .ok (.aload_n 0, 1) := by decide +kernel
theorem dX7_leastMarket_14 : decode cX7_leastMarket 14 = .ok (.getfield 10, 3) := by decide +kernel
theorem dX7_leastMarket_17 : decode cX7_leastMarket 17 = .ok (.getfield 175, 3) := by decide +kernel
theorem dX7_leastMarket_20 : decode cX7_leastMarket 20 = .ok (.if_icmp .gt 88, 3) := by decide +kernel
theorem dX7_leastMarket_23 : decode cX7_leastMarket 23 = .ok (.iconst 1, 1) := by decide +kernel
theorem dX7_leastMarket_24 : decode cX7_leastMarket 24 = .ok (.iload_n 1, 1) := by decide +kernel
theorem dX7_leastMarket_25 : decode cX7_leastMarket 25 = .ok (.ishl, 1) := by decide +kernel
theorem dX7_leastMarket_26 : decode cX7_leastMarket 26 = .ok (.istore 5, 2) := by decide +kernel
theorem dX7_leastMarket_28 : decode cX7_leastMarket 28 = .ok (.iload 5, 2) := by decide +kernel
theorem dX7_leastMarket_30 : decode cX7_leastMarket 30 = .ok (.iconst 1, 1) := by decide +kernel
theorem dX7_leastMarket_31 : decode cX7_leastMarket 31 = .ok (.aload_n 0, 1) := by decide +kernel
theorem dX7_leastMarket_32 : decode cX7_leastMarket 32 = .ok (.getfield 10, 3) := by decide +kernel
theorem dX7_leastMarket_35 : decode cX7_leastMarket 35 = .ok (.getfield 175, 3) := by decide +kernel
theorem dX7_leastMarket_38 : decode cX7_leastMarket 38 = .ok (.ishl, 1) := by decide +kernel
theorem dX7_leastMarket_39 : decode cX7_leastMarket 39 = .ok (.if_icmp .ge 63, 3) := by decide +kernel
theorem dX7_leastMarket_42 : decode cX7_leastMarket 42 = .ok (.iload 5, 2) := by decide +kernel
theorem dX7_leastMarket_44 : decode cX7_leastMarket 44 = .ok (.invokestatic 189, 3) := by decide +kernel
theorem dX7_leastMarket_47 : decode cX7_leastMarket 47 = .ok (.iload 4, 2) := by decide +kernel
theorem dX7_leastMarket_49 : decode cX7_leastMarket 49 = .ok (.if_icmp .ne 26, 3) := by decide +kernel
theorem dX7_leastMarket_52 : decode cX7_leastMarket 52 = .ok (.iload 5, 2) := by decide +kernel
theorem dX7_leastMarket_54 : decode cX7_leastMarket 54 = .ok (.iload_n 1, 1) := by decide +kernel
theorem dX7_leastMarket_55 : decode cX7_leastMarket 55 = .ok (.ishr, 1) := by decide +kernel
theorem dX7_leastMarket_56 : decode cX7_leastMarket 56 = .ok (.iconst 1, 1) := by decide +kernel
theorem dX7_leastMarket_57 : decode cX7_leastMarket 57 = .ok (.iand, 1) := by decide +kernel
theorem dX7_leastMarket_58 : decode cX7_leastMarket 58 = .ok (.iconst 1, 1) := by decide +kernel
theorem dX7_leastMarket_59 : decode cX7_leastMarket 59 = .ok (.if_icmp .ne 16, 3) := by decide +kernel
theorem dX7_leastMarket_62 : decode cX7_leastMarket 62 = .ok (.iload 5, 2) := by decide +kernel
theorem dX7_leastMarket_64 : decode cX7_leastMarket 64 = .ok (.iload_n 3, 1) := by decide +kernel
theorem dX7_leastMarket_65 : decode cX7_leastMarket 65 = .ok (.iconst (-1), 1) := by decide +kernel
theorem dX7_leastMarket_66 : decode cX7_leastMarket 66 = .ok (.ixor, 1) := by decide +kernel
theorem dX7_leastMarket_67 : decode cX7_leastMarket 67 = .ok (.iand, 1) := by decide +kernel
theorem dX7_leastMarket_68 : decode cX7_leastMarket 68 = .ok (.ifCond .ne 7, 3) := by decide +kernel
theorem dX7_leastMarket_71 : decode cX7_leastMarket 71 = .ok (.iconst 1, 1) := by decide +kernel
theorem dX7_leastMarket_72 : decode cX7_leastMarket 72 = .ok (.goto 4, 3) := by decide +kernel
theorem dX7_leastMarket_75 : decode cX7_leastMarket 75 = .ok (.iconst 0, 1) := by decide +kernel
theorem dX7_leastMarket_76 : decode cX7_leastMarket 76 = .ok (.istore 6, 2) := by decide +kernel
theorem dX7_leastMarket_78 : decode cX7_leastMarket 78 = .ok (.iload 6, 2) := by decide +kernel
theorem dX7_leastMarket_80 : decode cX7_leastMarket 80 = .ok (.ifCond .eq 16, 3) := by decide +kernel
theorem dX7_leastMarket_83 : decode cX7_leastMarket 83 = .ok (.aload_n 0, 1) := by decide +kernel
theorem dX7_leastMarket_84 : decode cX7_leastMarket 84 = .ok (.iload 5, 2) := by decide +kernel
theorem dX7_leastMarket_86 : decode cX7_leastMarket 86 = .ok (.iload_n 2, 1) := by decide +kernel
theorem dX7_leastMarket_87 : decode cX7_leastMarket 87 = .ok (.invokevirtual 178, 3) := by decide +kernel
theorem dX7_leastMarket_90 : decode cX7_leastMarket 90 = .ok (.ifCond .eq 6, 3) := by decide +kernel
theorem dX7_leastMarket_93 : decode cX7_leastMarket 93 = .ok (.iload 5, 2) := by decide +kernel
theorem dX7_leastMarket_95 : decode cX7_leastMarket 95 = .ok (.ireturn, 1) := by decide +kernel
theorem dX7_leastMarket_96 : decode cX7_leastMarket 96 = .ok (.iinc 5 1, 3) := by decide +kernel
theorem dX7_leastMarket_99 : decode cX7_leastMarket 99 = .ok (.goto (-71), 3) := by decide +kernel
theorem dX7_leastMarket_102 : decode cX7_leastMarket 102 = .ok (.iinc 4 1, 3) := by decide +kernel
theorem dX7_leastMarket_105 : decode cX7_leastMarket 105 = .ok (.goto (-94), 3) := by decide +kernel
theorem dX7_leastMarket_108 : decode cX7_leastMarket 108 = .ok (.iconst (-1), 1) := by decide +kernel
theorem dX7_leastMarket_109 : decode cX7_leastMarket 109 = .ok (.ireturn, 1) := by decide +kernel
theorem dX7_nearMarket_0 : decode cX7_nearMarket 0 = .ok (.iconst 1, 1) := by decide +kernel
theorem dX7_nearMarket_1 : decode cX7_nearMarket 1 = .ok (.iload_n 1, 1) := by decide +kernel
theorem dX7_nearMarket_2 : decode cX7_nearMarket 2 = .ok (.ishl, 1) := by decide +kernel
theorem dX7_nearMarket_3 : decode cX7_nearMarket 3 = .ok (.istore_n 3, 1) := by decide +kernel
theorem dX7_nearMarket_4 : decode cX7_nearMarket 4 = .ok (.iconst 1, 1) := by decide +kernel
theorem dX7_nearMarket_5 : decode cX7_nearMarket 5 = .ok (.istore 4, 2) := by decide +kernel
theorem dX7_nearMarket_7 : decode cX7_nearMarket 7 = .ok (.iload 4, 2) := by decide +kernel
theorem dX7_nearMarket_9 : decode cX7_nearMarket 9 = .ok (.aload_n 0, 1) := by decide +kernel
theorem dX7_nearMarket_10 : decode cX7_nearMarket 10 = .ok (.getfield 10, 3) := by decide +kernel
theorem dX7_nearMarket_13 : decode cX7_nearMarket 13 = .ok (.getfield 175, 3) := by decide +kernel
theorem dX7_nearMarket_16 : decode cX7_nearMarket 16 = .ok (.if_icmp .gt 46, 3) := by decide +kernel
theorem dX7_nearMarket_19 : decode cX7_nearMarket 19 = .ok (.aload_n 0, 1) := by decide +kernel
theorem dX7_nearMarket_20 : decode cX7_nearMarket 20 = .ok (.iload_n 3, 1) := by decide +kernel
theorem dX7_nearMarket_21 : decode cX7_nearMarket 21 = .ok (.iload_n 2, 1) := by decide +kernel
theorem dX7_nearMarket_22 : decode cX7_nearMarket 22 = .ok (.invokevirtual 178, 3) := by decide +kernel
theorem dX7_nearMarket_25 : decode cX7_nearMarket 25 = .ok (.ifCond .eq 5, 3) := by decide +kernel
theorem dX7_nearMarket_28 : decode cX7_nearMarket 28 = .ok (.iload_n 3, 1) := by decide +kernel
theorem dX7_nearMarket_29 : decode cX7_nearMarket 29 = .ok (.ireturn, 1) := by decide +kernel
theorem dX7_nearMarket_30 : decode cX7_nearMarket 30 = .ok (.aload_n 0, 1) := by decide +kernel
theorem dX7_nearMarket_31 : decode cX7_nearMarket 31 = .ok (.getfield 21, 3) := by decide +kernel
theorem dX7_nearMarket_34 : decode cX7_nearMarket 34 = .ok (.iload_n 1, 1) := by decide +kernel
theorem dX7_nearMarket_35 : decode cX7_nearMarket 35 = .ok (.iload_n 3, 1) := by decide +kernel
theorem dX7_nearMarket_36 : decode cX7_nearMarket 36 = .ok (.invokevirtual 182, 3) := by decide +kernel
theorem dX7_nearMarket_39 : decode cX7_nearMarket 39 = .ok (.istore 5, 2) := by decide +kernel
theorem dX7_nearMarket_41 : decode cX7_nearMarket 41 = .ok (.iload 5, 2) := by decide +kernel
theorem dX7_nearMarket_43 : decode cX7_nearMarket 43 = .ok (.iconst (-1), 1) := by decide +kernel
theorem dX7_nearMarket_44 : decode cX7_nearMarket 44 = .ok (.if_icmp .ne 5, 3) := by decide +kernel
theorem dX7_nearMarket_47 : decode cX7_nearMarket 47 = .ok (.iconst (-1), 1) := by decide +kernel
theorem dX7_nearMarket_48 : decode cX7_nearMarket 48 = .ok (.ireturn, 1) := by decide +kernel
theorem dX7_nearMarket_49 : decode cX7_nearMarket 49 = .ok (.iload_n 3, 1) := by decide +kernel
theorem dX7_nearMarket_50 : decode cX7_nearMarket 50 = .ok (.iconst 1, 1) := by decide +kernel
theorem dX7_nearMarket_51 : decode cX7_nearMarket 51 = .ok (.iload 5, 2) := by decide +kernel
theorem dX7_nearMarket_53 : decode cX7_nearMarket 53 = .ok (.ishl, 1) := by decide +kernel
theorem dX7_nearMarket_54 : decode cX7_nearMarket 54 = .ok (.ior, 1) := by decide +kernel
theorem dX7_nearMarket_55 : decode cX7_nearMarket 55 = .ok (.istore_n 3, 1) := by decide +kernel
theorem dX7_nearMarket_56 : decode cX7_nearMarket 56 = .ok (.iinc 4 1, 3) := by decide +kernel
theorem dX7_nearMarket_59 : decode cX7_nearMarket 59 = .ok (.goto (-52), 3) := by decide +kernel
theorem dX7_nearMarket_62 : decode cX7_nearMarket 62 = .ok (.iconst (-1), 1) := by decide +kernel
theorem dX7_nearMarket_63 : decode cX7_nearMarket 63 = .ok (.ireturn, 1) := by decide +kernel
theorem dX7_market_0 : decode cX7_market 0 = .ok (.aload_n 0, 1) := by decide +kernel
theorem dX7_market_1 : decode cX7_market 1 = .ok (.iload_n 1, 1) := by decide +kernel
theorem dX7_market_2 : decode cX7_market 2 = .ok (.invokevirtual 101, 3) := by decide +kernel
theorem dX7_market_5 : decode cX7_market 5 = .ok (.ifCond .eq 6, 3) := by decide +kernel
theorem dX7_market_8 : decode cX7_market 8 = .ok (.bipush (-101), 2) := by decide +kernel
theorem dX7_market_10 : decode cX7_market 10 = .ok (.ireturn, 1) := by decide +kernel
theorem dX7_market_11 : decode cX7_market 11 = .ok (.iload_n 2, 1) := by decide +kernel
theorem dX7_market_12 : decode cX7_market 12 = .ok (.iconst 1, 1) := by decide +kernel
theorem dX7_market_13 : decode cX7_market 13 = .ok (.iconst 5, 1) := by decide +kernel
theorem dX7_market_14 : decode cX7_market 14 = .ok (.invokestatic 72, 3) := by decide +kernel
theorem dX7_market_17 : decode cX7_market 17 = .ok (.ifCond .eq 6, 3) := by decide +kernel
theorem dX7_market_20 : decode cX7_market 20 = .ok (.bipush (-102), 2) := by decide +kernel
theorem dX7_market_22 : decode cX7_market 22 = .ok (.ireturn, 1) := by decide +kernel
theorem dX7_market_23 : decode cX7_market 23 = .ok (.aload_n 0, 1) := by decide +kernel
theorem dX7_market_24 : decode cX7_market 24 = .ok (.getfield 21, 3) := by decide +kernel
theorem dX7_market_27 : decode cX7_market 27 = .ok (.iload_n 1, 1) := by decide +kernel
theorem dX7_market_28 : decode cX7_market 28 = .ok (.invokevirtual 110, 3) := by decide +kernel
theorem dX7_market_31 : decode cX7_market 31 = .ok (.ifCond .ne 6, 3) := by decide +kernel
theorem dX7_market_34 : decode cX7_market 34 = .ok (.bipush (-103), 2) := by decide +kernel
theorem dX7_market_36 : decode cX7_market 36 = .ok (.ireturn, 1) := by decide +kernel
theorem dX7_market_37 : decode cX7_market 37 = .ok (.iload_n 3, 1) := by decide +kernel
theorem dX7_market_38 : decode cX7_market 38 = .ok (.ifCond .eq 12, 3) := by decide +kernel
theorem dX7_market_41 : decode cX7_market 41 = .ok (.aload_n 0, 1) := by decide +kernel
theorem dX7_market_42 : decode cX7_market 42 = .ok (.iload_n 1, 1) := by decide +kernel
theorem dX7_market_43 : decode cX7_market 43 = .ok (.iload_n 2, 1) := by decide +kernel
theorem dX7_market_44 : decode cX7_market 44 = .ok (.invokevirtual 169, 3) := by decide +kernel
theorem dX7_market_47 : decode cX7_market 47 = .ok (.goto 9, 3) := by decide +kernel
theorem dX7_market_50 : decode cX7_market 50 = .ok (.aload_n 0, 1) := by decide +kernel
theorem dX7_market_51 : decode cX7_market 51 = .ok (.iload_n 1, 1) := by decide +kernel
theorem dX7_market_52 : decode cX7_market 52 = .ok (.iload_n 2, 1) := by decide +kernel
theorem dX7_market_53 : decode cX7_market 53 = .ok (.invokevirtual 172, 3) := by decide +kernel
theorem dX7_market_56 : decode cX7_market 56 = .ok (.ireturn, 1) := by decide +kernel
theorem dX7_instead_0 : decode cX7_instead 0 = .ok (.aload_n 0, 1) := by decide +kernel
theorem dX7_instead_1 : decode cX7_instead 1 = .ok (.iload_n 1, 1) := by decide +kernel
theorem dX7_instead_2 : decode cX7_instead 2 = .ok (.invokevirtual 120, 3) := by decide +kernel
theorem dX7_instead_5 : decode cX7_instead 5 = .ok (.ifCond .ne 11, 3) := by decide +kernel
theorem dX7_instead_8 : decode cX7_instead 8 = .ok (.aload_n 0, 1) := by decide +kernel
theorem dX7_instead_9 : decode cX7_instead 9 = .ok (.iload_n 2, 1) := by decide +kernel
theorem dX7_instead_10 : decode cX7_instead 10 = .ok (.invokevirtual 101, 3) := by decide +kernel
theorem dX7_instead_13 : decode cX7_instead 13 = .ok (.ifCond .eq 8, 3) := by decide +kernel
theorem dX7_instead_16 : decode cX7_instead 16 = .ok (.bipush (-101), 2) := by decide +kernel
theorem dX7_instead_18 : decode cX7_instead 18 = .ok (.goto 12, 3) := by decide +kernel
theorem dX7_instead_21 : decode cX7_instead 21 = .ok (.aload_n 0, 1) := by decide +kernel
theorem dX7_instead_22 : decode cX7_instead 22 = .ok (.getfield 21, 3) := by decide +kernel
theorem dX7_instead_25 : decode cX7_instead 25 = .ok (.iload_n 1, 1) := by decide +kernel
theorem dX7_instead_26 : decode cX7_instead 26 = .ok (.iload_n 2, 1) := by decide +kernel
theorem dX7_instead_27 : decode cX7_instead 27 = .ok (.invokevirtual 126, 3) := by decide +kernel
theorem dX7_instead_30 : decode cX7_instead 30 = .ok (.ireturn, 1) := by decide +kernel
theorem dX7_from_0 : decode cX7_from 0 = .ok (.aload_n 0, 1) := by decide +kernel
theorem dX7_from_1 : decode cX7_from 1 = .ok (.iload_n 1, 1) := by decide +kernel
theorem dX7_from_2 : decode cX7_from 2 = .ok (.invokevirtual 101, 3) := by decide +kernel
theorem dX7_from_5 : decode cX7_from 5 = .ok (.ifCond .ne 16, 3) := by decide +kernel
theorem dX7_from_8 : decode cX7_from 8 = .ok (.aload_n 0, 1) := by decide +kernel
theorem dX7_from_9 : decode cX7_from 9 = .ok (.iload_n 2, 1) := by decide +kernel
theorem dX7_from_10 : decode cX7_from 10 = .ok (.invokevirtual 101, 3) := by decide +kernel
theorem dX7_from_13 : decode cX7_from 13 = .ok (.ifCond .ne 8, 3) := by decide +kernel
theorem dX7_from_16 : decode cX7_from 16 = .ok (.iload_n 1, 1) := by decide +kernel
theorem dX7_from_17 : decode cX7_from 17 = .ok (.iload_n 2, 1) := by decide +kernel
theorem dX7_from_18 : decode cX7_from 18 = .ok (.if_icmp .ne 6, 3) := by decide +kernel
theorem dX7_from_21 : decode cX7_from 21 = .ok (.bipush (-101), 2) := by decide +kernel
theorem dX7_from_23 : decode cX7_from 23 = .ok (.ireturn, 1) := by decide +kernel
theorem dX7_from_24 : decode cX7_from 24 = .ok (.iconst 0, 1) := by decide +kernel
theorem dX7_from_25 : decode cX7_from 25 = .ok (.istore_n 3, 1) := by decide +kernel
theorem dX7_from_26 : decode cX7_from 26 = .ok (.iconst 0, 1) := by decide +kernel
theorem dX7_from_27 : decode cX7_from 27 = .ok (.istore 4, 2) := by decide +kernel
theorem dX7_from_29 : decode cX7_from 29 = .ok (.iload 4, 2) := by decide +kernel
theorem dX7_from_31 : decode cX7_from 31 = .ok (.aload_n 0, 1) := by decide +kernel
theorem dX7_from_32 : decode cX7_from 32 = .ok (.getfield 10, 3) := by decide +kernel
theorem dX7_from_35 : decode cX7_from 35 = .ok (.getfield 202, 3) := by decide +kernel
theorem dX7_from_38 : decode cX7_from 38 = .ok (.if_icmp .ge 50, 3) := by decide +kernel
theorem dX7_from_41 : decode cX7_from 41 = .ok (.aload_n 0, 1) := by decide +kernel
theorem dX7_from_42 : decode cX7_from 42 = .ok (.getfield 21, 3) := by decide +kernel
theorem dX7_from_45 : decode cX7_from 45 = .ok (.iload 4, 2) := by decide +kernel
theorem dX7_from_47 : decode cX7_from 47 = .ok (.iconst (-1), 1) := by decide +kernel
theorem dX7_from_48 : decode cX7_from 48 = .ok (.invokevirtual 126, 3) := by decide +kernel
theorem dX7_from_51 : decode cX7_from 51 = .ok (.iload_n 1, 1) := by decide +kernel
theorem dX7_from_52 : decode cX7_from 52 = .ok (.if_icmp .ne 30, 3) := by decide +kernel
theorem dX7_from_55 : decode cX7_from 55 = .ok (.aload_n 0, 1) := by decide +kernel
theorem dX7_from_56 : decode cX7_from 56 = .ok (.getfield 21, 3) := by decide +kernel
theorem dX7_from_59 : decode cX7_from 59 = .ok (.iload 4, 2) := by decide +kernel
theorem dX7_from_61 : decode cX7_from 61 = .ok (.iload_n 1, 1) := by decide +kernel
theorem dX7_from_62 : decode cX7_from 62 = .ok (.invokevirtual 126, 3) := by decide +kernel
theorem dX7_from_65 : decode cX7_from 65 = .ok (.iload_n 2, 1) := by decide +kernel
theorem dX7_from_66 : decode cX7_from 66 = .ok (.if_icmp .ne 16, 3) := by decide +kernel
theorem dX7_from_69 : decode cX7_from 69 = .ok (.iload_n 3, 1) := by decide +kernel
theorem dX7_from_70 : decode cX7_from 70 = .ok (.aload_n 0, 1) := by decide +kernel
theorem dX7_from_71 : decode cX7_from 71 = .ok (.getfield 10, 3) := by decide +kernel
theorem dX7_from_74 : decode cX7_from 74 = .ok (.getfield 205, 3) := by decide +kernel
theorem dX7_from_77 : decode cX7_from 77 = .ok (.iload 4, 2) := by decide +kernel
theorem dX7_from_79 : decode cX7_from 79 = .ok (.iaload, 1) := by decide +kernel
theorem dX7_from_80 : decode cX7_from 80 = .ok (.iadd, 1) := by decide +kernel
theorem dX7_from_81 : decode cX7_from 81 = .ok (.istore_n 3, 1) := by decide +kernel
theorem dX7_from_82 : decode cX7_from 82 = .ok (.iinc 4 1, 3) := by decide +kernel
theorem dX7_from_85 : decode cX7_from 85 = .ok (.goto (-56), 3) := by decide +kernel
theorem dX7_from_88 : decode cX7_from 88 = .ok (.iload_n 3, 1) := by decide +kernel
theorem dX7_from_89 : decode cX7_from 89 = .ok (.ireturn, 1) := by decide +kernel
theorem dX7_areNotTwo_0 : decode cX7_areNotTwo 0 = .ok (.aload_n 0, 1) := by decide +kernel
theorem dX7_areNotTwo_1 : decode cX7_areNotTwo 1 = .ok (.iload_n 1, 1) := by decide +kernel
theorem dX7_areNotTwo_2 : decode cX7_areNotTwo 2 = .ok (.invokevirtual 80, 3) := by decide +kernel
theorem dX7_areNotTwo_5 : decode cX7_areNotTwo 5 = .ok (.ifCond .ne 16, 3) := by decide +kernel
theorem dX7_areNotTwo_8 : decode cX7_areNotTwo 8 = .ok (.aload_n 0, 1) := by decide +kernel
theorem dX7_areNotTwo_9 : decode cX7_areNotTwo 9 = .ok (.iload_n 2, 1) := by decide +kernel
theorem dX7_areNotTwo_10 : decode cX7_areNotTwo 10 = .ok (.invokevirtual 80, 3) := by decide +kernel
theorem dX7_areNotTwo_13 : decode cX7_areNotTwo 13 = .ok (.ifCond .ne 8, 3) := by decide +kernel
theorem dX7_areNotTwo_16 : decode cX7_areNotTwo 16 = .ok (.iload_n 1, 1) := by decide +kernel
theorem dX7_areNotTwo_17 : decode cX7_areNotTwo 17 = .ok (.iload_n 2, 1) := by decide +kernel
theorem dX7_areNotTwo_18 : decode cX7_areNotTwo 18 = .ok (.if_icmp .ne 7, 3) := by decide +kernel
theorem dX7_areNotTwo_21 : decode cX7_areNotTwo 21 = .ok (.iconst 1, 1) := by decide +kernel
theorem dX7_areNotTwo_22 : decode cX7_areNotTwo 22 = .ok (.goto 4, 3) := by decide +kernel
theorem dX7_areNotTwo_25 : decode cX7_areNotTwo 25 = .ok (.iconst 0, 1) := by decide +kernel
theorem dX7_areNotTwo_26 : decode cX7_areNotTwo 26 = .ok (.ireturn, 1) := by decide +kernel
theorem dX7_areTooMany_0 : decode cX7_areTooMany 0 = .ok (.aload_n 0, 1) := by decide +kernel
theorem dX7_areTooMany_1 : decode cX7_areTooMany 1 = .ok (.getfield 21, 3) := by decide +kernel
theorem dX7_areTooMany_4 : decode cX7_areTooMany 4 = .ok (.iload_n 1, 1) := by decide +kernel
theorem dX7_areTooMany_5 : decode cX7_areTooMany 5 = .ok (.invokevirtual 88, 3) := by decide +kernel
theorem dX7_areTooMany_8 : decode cX7_areTooMany 8 = .ok (.aload_n 0, 1) := by decide +kernel
theorem dX7_areTooMany_9 : decode cX7_areTooMany 9 = .ok (.getfield 21, 3) := by decide +kernel
theorem dX7_areTooMany_12 : decode cX7_areTooMany 12 = .ok (.iload_n 2, 1) := by decide +kernel
theorem dX7_areTooMany_13 : decode cX7_areTooMany 13 = .ok (.invokevirtual 88, 3) := by decide +kernel
theorem dX7_areTooMany_16 : decode cX7_areTooMany 16 = .ok (.iadd, 1) := by decide +kernel
theorem dX7_areTooMany_17 : decode cX7_areTooMany 17 = .ok (.iconst 3, 1) := by decide +kernel
theorem dX7_areTooMany_18 : decode cX7_areTooMany 18 = .ok (.if_icmp .le 7, 3) := by decide +kernel
theorem dX7_areTooMany_21 : decode cX7_areTooMany 21 = .ok (.iconst 1, 1) := by decide +kernel
theorem dX7_areTooMany_22 : decode cX7_areTooMany 22 = .ok (.goto 4, 3) := by decide +kernel
theorem dX7_areTooMany_25 : decode cX7_areTooMany 25 = .ok (.iconst 0, 1) := by decide +kernel
theorem dX7_areTooMany_26 : decode cX7_areTooMany 26 = .ok (.ireturn, 1) := by decide +kernel
theorem dX7_merge_0 : decode cX7_merge 0 = .ok (.aload_n 0, 1) := by decide +kernel
theorem dX7_merge_1 : decode cX7_merge 1 = .ok (.iload_n 1, 1) := by decide +kernel
theorem dX7_merge_2 : decode cX7_merge 2 = .ok (.iload_n 2, 1) := by decide +kernel
theorem dX7_merge_3 : decode cX7_merge 3 = .ok (.invokevirtual 208, 3) := by decide +kernel
theorem dX7_merge_6 : decode cX7_merge 6 = .ok (.ifCond .eq 6, 3) := by decide +kernel
theorem dX7_merge_9 : decode cX7_merge 9 = .ok (.bipush (-101), 2) := by decide +kernel
theorem dX7_merge_11 : decode cX7_merge 11 = .ok (.ireturn, 1) := by decide +kernel
theorem dX7_merge_12 : decode cX7_merge 12 = .ok (.aload_n 0, 1) := by decide +kernel
theorem dX7_merge_13 : decode cX7_merge 13 = .ok (.iload_n 1, 1) := by decide +kernel
theorem dX7_merge_14 : decode cX7_merge 14 = .ok (.iload_n 2, 1) := by decide +kernel
theorem dX7_merge_15 : decode cX7_merge 15 = .ok (.invokevirtual 211, 3) := by decide +kernel
theorem dX7_merge_18 : decode cX7_merge 18 = .ok (.ifCond .eq 6, 3) := by decide +kernel
theorem dX7_merge_21 : decode cX7_merge 21 = .ok (.bipush (-103), 2) := by decide +kernel
theorem dX7_merge_23 : decode cX7_merge 23 = .ok (.ireturn, 1) := by decide +kernel
theorem dX7_merge_24 : decode cX7_merge 24 = .ok (.aload_n 0, 1) := by decide +kernel
theorem dX7_merge_25 : decode cX7_merge 25 = .ok (.getfield 21, 3) := by decide +kernel
theorem dX7_merge_28 : decode cX7_merge 28 = .ok (.iload_n 2, 1) := by decide +kernel
theorem dX7_merge_29 : decode cX7_merge 29 = .ok (.iload_n 1, 1) := by decide +kernel
theorem dX7_merge_30 : decode cX7_merge 30 = .ok (.invokevirtual 214, 3) := by decide +kernel
theorem dX7_merge_33 : decode cX7_merge 33 = .ok (.aload_n 0, 1) := by decide +kernel
theorem dX7_merge_34 : decode cX7_merge 34 = .ok (.getfield 21, 3) := by decide +kernel
theorem dX7_merge_37 : decode cX7_merge 37 = .ok (.iload_n 1, 1) := by decide +kernel
theorem dX7_merge_38 : decode cX7_merge 38 = .ok (.invokevirtual 88, 3) := by decide +kernel
theorem dX7_merge_41 : decode cX7_merge 41 = .ok (.ireturn, 1) := by decide +kernel
theorem dX7_dearer_0 : decode cX7_dearer 0 = .ok (.aload_n 0, 1) := by decide +kernel
theorem dX7_dearer_1 : decode cX7_dearer 1 = .ok (.iload_n 1, 1) := by decide +kernel
theorem dX7_dearer_2 : decode cX7_dearer 2 = .ok (.iload_n 2, 1) := by decide +kernel
theorem dX7_dearer_3 : decode cX7_dearer 3 = .ok (.invokevirtual 208, 3) := by decide +kernel
theorem dX7_dearer_6 : decode cX7_dearer 6 = .ok (.ifCond .ne 11, 3) := by decide +kernel
theorem dX7_dearer_9 : decode cX7_dearer 9 = .ok (.aload_n 0, 1) := by decide +kernel
theorem dX7_dearer_10 : decode cX7_dearer 10 = .ok (.iload_n 3, 1) := by decide +kernel
theorem dX7_dearer_11 : decode cX7_dearer 11 = .ok (.invokevirtual 120, 3) := by decide +kernel
theorem dX7_dearer_14 : decode cX7_dearer 14 = .ok (.ifCond .eq 7, 3) := by decide +kernel
theorem dX7_dearer_17 : decode cX7_dearer 17 = .ok (.sipush (-1001), 3) := by decide +kernel
theorem dX7_dearer_20 : decode cX7_dearer 20 = .ok (.ireturn, 1) := by decide +kernel
theorem dX7_dearer_21 : decode cX7_dearer 21 = .ok (.aload_n 0, 1) := by decide +kernel
theorem dX7_dearer_22 : decode cX7_dearer 22 = .ok (.iload_n 1, 1) := by decide +kernel
theorem dX7_dearer_23 : decode cX7_dearer 23 = .ok (.iload_n 2, 1) := by decide +kernel
theorem dX7_dearer_24 : decode cX7_dearer 24 = .ok (.invokevirtual 211, 3) := by decide +kernel
theorem dX7_dearer_27 : decode cX7_dearer 27 = .ok (.ifCond .ne 34, 3) := by decide +kernel
theorem dX7_dearer_30 : decode cX7_dearer 30 = .ok (.aload_n 0, 1) := by decide +kernel
theorem dX7_dearer_31 : decode cX7_dearer 31 = .ok (.getfield 43, 3) := by decide +kernel
theorem dX7_dearer_34 : decode cX7_dearer 34 = .ok (.aload_n 0, 1) := by decide +kernel
theorem dX7_dearer_35 : decode cX7_dearer 35 = .ok (.getfield 21, 3) := by decide +kernel
theorem dX7_dearer_38 : decode cX7_dearer 38 = .ok (.invokevirtual 218, 3) := by decide +kernel
theorem dX7_dearer_41 : decode cX7_dearer 41 = .ok (.ifCond .eq 20, 3) := by decide +kernel
theorem dX7_dearer_44 : decode cX7_dearer 44 = .ok (.aload_n 0, 1) := by decide +kernel
theorem dX7_dearer_45 : decode cX7_dearer 45 = .ok (.getfield 43, 3) := by decide +kernel
theorem dX7_dearer_48 : decode cX7_dearer 48 = .ok (.aload_n 0, 1) := by decide +kernel
theorem dX7_dearer_49 : decode cX7_dearer 49 = .ok (.getfield 21, 3) := by decide +kernel
theorem dX7_dearer_52 : decode cX7_dearer 52 = .ok (.iload_n 1, 1) := by decide +kernel
theorem dX7_dearer_53 : decode cX7_dearer 53 = .ok (.iload_n 2, 1) := by decide +kernel
theorem dX7_dearer_54 : decode cX7_dearer 54 = .ok (.invokevirtual 222, 3) := by decide +kernel
theorem dX7_dearer_57 : decode cX7_dearer 57 = .ok (.iconst (-1), 1) := by decide +kernel
theorem dX7_dearer_58 : decode cX7_dearer 58 = .ok (.if_icmp .ne 7, 3) := by decide +kernel
theorem dX7_dearer_61 : decode cX7_dearer 61 = .ok (.sipush (-1002), 3) := by decide +kernel
theorem dX7_dearer_64 : decode cX7_dearer 64 = .ok (.ireturn, 1) := by decide +kernel
theorem dX7_dearer_65 : decode cX7_dearer 65 = .ok (.aload_n 0, 1) := by decide +kernel
theorem dX7_dearer_66 : decode cX7_dearer 66 = .ok (.getfield 43, 3) := by decide +kernel
theorem dX7_dearer_69 : decode cX7_dearer 69 = .ok (.iload_n 3, 1) := by decide +kernel
theorem dX7_dearer_70 : decode cX7_dearer 70 = .ok (.invokevirtual 226, 3) := by decide +kernel
theorem dX7_dearer_73 : decode cX7_dearer 73 = .ok (.ireturn, 1) := by decide +kernel
theorem dX7_harm_0 : decode cX7_harm 0 = .ok (.aload_n 0, 1) := by decide +kernel
theorem dX7_harm_1 : decode cX7_harm 1 = .ok (.iload_n 1, 1) := by decide +kernel
theorem dX7_harm_2 : decode cX7_harm 2 = .ok (.iload_n 2, 1) := by decide +kernel
theorem dX7_harm_3 : decode cX7_harm 3 = .ok (.invokevirtual 208, 3) := by decide +kernel
theorem dX7_harm_6 : decode cX7_harm 6 = .ok (.ifCond .eq 6, 3) := by decide +kernel
theorem dX7_harm_9 : decode cX7_harm 9 = .ok (.bipush (-101), 2) := by decide +kernel
theorem dX7_harm_11 : decode cX7_harm 11 = .ok (.ireturn, 1) := by decide +kernel
theorem dX7_harm_12 : decode cX7_harm 12 = .ok (.iload_n 3, 1) := by decide +kernel
theorem dX7_harm_13 : decode cX7_harm 13 = .ok (.iconst 0, 1) := by decide +kernel
theorem dX7_harm_14 : decode cX7_harm 14 = .ok (.iconst 2, 1) := by decide +kernel
theorem dX7_harm_15 : decode cX7_harm 15 = .ok (.invokestatic 72, 3) := by decide +kernel
theorem dX7_harm_18 : decode cX7_harm 18 = .ok (.ifCond .eq 6, 3) := by decide +kernel
theorem dX7_harm_21 : decode cX7_harm 21 = .ok (.bipush (-102), 2) := by decide +kernel
theorem dX7_harm_23 : decode cX7_harm 23 = .ok (.ireturn, 1) := by decide +kernel
theorem dX7_harm_24 : decode cX7_harm 24 = .ok (.aload_n 0, 1) := by decide +kernel
theorem dX7_harm_25 : decode cX7_harm 25 = .ok (.iload_n 1, 1) := by decide +kernel
theorem dX7_harm_26 : decode cX7_harm 26 = .ok (.iload_n 2, 1) := by decide +kernel
theorem dX7_harm_27 : decode cX7_harm 27 = .ok (.invokevirtual 211, 3) := by decide +kernel
theorem dX7_harm_30 : decode cX7_harm 30 = .ok (.ifCond .eq 6, 3) := by decide +kernel
theorem dX7_harm_33 : decode cX7_harm 33 = .ok (.bipush (-103), 2) := by decide +kernel
theorem dX7_harm_35 : decode cX7_harm 35 = .ok (.ireturn, 1) := by decide +kernel
theorem dX7_harm_36 : decode cX7_harm 36 = .ok (.aload_n 0, 1) := by decide +kernel
theorem dX7_harm_37 : decode cX7_harm 37 = .ok (.getfield 43, 3) := by decide +kernel
theorem dX7_harm_40 : decode cX7_harm 40 = .ok (.aload_n 0, 1) := by decide +kernel
theorem dX7_harm_41 : decode cX7_harm 41 = .ok (.getfield 21, 3) := by decide +kernel
theorem dX7_harm_44 : decode cX7_harm 44 = .ok (.invokevirtual 218, 3) := by decide +kernel
theorem dX7_harm_47 : decode cX7_harm 47 = .ok (.ifCond .ne 5, 3) := by decide +kernel
theorem dX7_harm_50 : decode cX7_harm 50 = .ok (.iconst (-1), 1) := by decide +kernel
theorem dX7_harm_51 : decode cX7_harm 51 = .ok (.ireturn, 1) := by decide +kernel
theorem dX7_harm_52 : decode cX7_harm 52 = .ok (.aload_n 0, 1) := by decide +kernel
theorem dX7_harm_53 : decode cX7_harm 53 = .ok (.getfield 43, 3) := by decide +kernel
theorem dX7_harm_56 : decode cX7_harm 56 = .ok (.aload_n 0, 1) := by decide +kernel
theorem dX7_harm_57 : decode cX7_harm 57 = .ok (.getfield 21, 3) := by decide +kernel
theorem dX7_harm_60 : decode cX7_harm 60 = .ok (.iload_n 1, 1) := by decide +kernel
theorem dX7_harm_61 : decode cX7_harm 61 = .ok (.iload_n 2, 1) := by decide +kernel
theorem dX7_harm_62 : decode cX7_harm 62 = .ok (.invokevirtual 222, 3) := by decide +kernel
theorem dX7_harm_65 : decode cX7_harm 65 = .ok (.istore 4, 2) := by decide +kernel
theorem dX7_harm_67 : decode cX7_harm 67 = .ok (.iload 4, 2) := by decide +kernel
theorem dX7_harm_69 : decode cX7_harm 69 = .ok (.iconst (-1), 1) := by decide +kernel
theorem dX7_harm_70 : decode cX7_harm 70 = .ok (.if_icmp .eq 8, 3) := by decide +kernel
theorem dX7_harm_73 : decode cX7_harm 73 = .ok (.iload_n 3, 1) := by decide +kernel
theorem dX7_harm_74 : decode cX7_harm 74 = .ok (.iconst 2, 1) := by decide +kernel
theorem dX7_harm_75 : decode cX7_harm 75 = .ok (.if_icmp .ne 6, 3) := by decide +kernel
theorem dX7_harm_78 : decode cX7_harm 78 = .ok (.iload 4, 2) := by decide +kernel
theorem dX7_harm_80 : decode cX7_harm 80 = .ok (.ireturn, 1) := by decide +kernel
theorem dX7_harm_81 : decode cX7_harm 81 = .ok (.iload_n 3, 1) := by decide +kernel
theorem dX7_harm_82 : decode cX7_harm 82 = .ok (.ifCond .ne 13, 3) := by decide +kernel
theorem dX7_harm_85 : decode cX7_harm 85 = .ok (.aload_n 0, 1) := by decide +kernel
theorem dX7_harm_86 : decode cX7_harm 86 = .ok (.getfield 43, 3) := by decide +kernel
theorem dX7_harm_89 : decode cX7_harm 89 = .ok (.invokevirtual 229, 3) := by decide +kernel
theorem dX7_harm_92 : decode cX7_harm 92 = .ok (.goto 10, 3) := by decide +kernel
theorem dX7_harm_95 : decode cX7_harm 95 = .ok (.aload_n 0, 1) := by decide +kernel
theorem dX7_harm_96 : decode cX7_harm 96 = .ok (.getfield 43, 3) := by decide +kernel
theorem dX7_harm_99 : decode cX7_harm 99 = .ok (.invokevirtual 232, 3) := by decide +kernel
theorem dX7_harm_102 : decode cX7_harm 102 = .ok (.ireturn, 1) := by decide +kernel
theorem dX7_soldOff_0 : decode cX7_soldOff 0 = .ok (.aload_n 0, 1) := by decide +kernel
theorem dX7_soldOff_1 : decode cX7_soldOff 1 = .ok (.iload_n 1, 1) := by decide +kernel
theorem dX7_soldOff_2 : decode cX7_soldOff 2 = .ok (.iload_n 2, 1) := by decide +kernel
theorem dX7_soldOff_3 : decode cX7_soldOff 3 = .ok (.invokevirtual 208, 3) := by decide +kernel
theorem dX7_soldOff_6 : decode cX7_soldOff 6 = .ok (.ifCond .ne 21, 3) := by decide +kernel
theorem dX7_soldOff_9 : decode cX7_soldOff 9 = .ok (.aload_n 0, 1) := by decide +kernel
theorem dX7_soldOff_10 : decode cX7_soldOff 10 = .ok (.iload_n 1, 1) := by decide +kernel
theorem dX7_soldOff_11 : decode cX7_soldOff 11 = .ok (.iload_n 3, 1) := by decide +kernel
theorem dX7_soldOff_12 : decode cX7_soldOff 12 = .ok (.invokevirtual 208, 3) := by decide +kernel
theorem dX7_soldOff_15 : decode cX7_soldOff 15 = .ok (.ifCond .ne 12, 3) := by decide +kernel
theorem dX7_soldOff_18 : decode cX7_soldOff 18 = .ok (.aload_n 0, 1) := by decide +kernel
theorem dX7_soldOff_19 : decode cX7_soldOff 19 = .ok (.iload_n 2, 1) := by decide +kernel
theorem dX7_soldOff_20 : decode cX7_soldOff 20 = .ok (.iload_n 3, 1) := by decide +kernel
theorem dX7_soldOff_21 : decode cX7_soldOff 21 = .ok (.invokevirtual 208, 3) := by decide +kernel
theorem dX7_soldOff_24 : decode cX7_soldOff 24 = .ok (.ifCond .eq 6, 3) := by decide +kernel
theorem dX7_soldOff_27 : decode cX7_soldOff 27 = .ok (.bipush (-101), 2) := by decide +kernel
theorem dX7_soldOff_29 : decode cX7_soldOff 29 = .ok (.ireturn, 1) := by decide +kernel
theorem dX7_soldOff_30 : decode cX7_soldOff 30 = .ok (.iload 4, 2) := by decide +kernel
theorem dX7_soldOff_32 : decode cX7_soldOff 32 = .ok (.iconst 0, 1) := by decide +kernel
theorem dX7_soldOff_33 : decode cX7_soldOff 33 = .ok (.bipush 9, 2) := by decide +kernel
theorem dX7_soldOff_35 : decode cX7_soldOff 35 = .ok (.invokestatic 72, 3) := by decide +kernel
theorem dX7_soldOff_38 : decode cX7_soldOff 38 = .ok (.ifCond .eq 6, 3) := by decide +kernel
theorem dX7_soldOff_41 : decode cX7_soldOff 41 = .ok (.bipush (-102), 2) := by decide +kernel
theorem dX7_soldOff_43 : decode cX7_soldOff 43 = .ok (.ireturn, 1) := by decide +kernel
theorem dX7_soldOff_44 : decode cX7_soldOff 44 = .ok (.aload_n 0, 1) := by decide +kernel
theorem dX7_soldOff_45 : decode cX7_soldOff 45 = .ok (.iload_n 1, 1) := by decide +kernel
theorem dX7_soldOff_46 : decode cX7_soldOff 46 = .ok (.iload_n 2, 1) := by decide +kernel
theorem dX7_soldOff_47 : decode cX7_soldOff 47 = .ok (.invokevirtual 211, 3) := by decide +kernel
theorem dX7_soldOff_50 : decode cX7_soldOff 50 = .ok (.ifCond .eq 6, 3) := by decide +kernel
theorem dX7_soldOff_53 : decode cX7_soldOff 53 = .ok (.bipush (-103), 2) := by decide +kernel
theorem dX7_soldOff_55 : decode cX7_soldOff 55 = .ok (.ireturn, 1) := by decide +kernel
theorem dX7_soldOff_56 : decode cX7_soldOff 56 = .ok (.aload_n 0, 1) := by decide +kernel
theorem dX7_soldOff_57 : decode cX7_soldOff 57 = .ok (.getfield 43, 3) := by decide +kernel
theorem dX7_soldOff_60 : decode cX7_soldOff 60 = .ok (.aload_n 0, 1) := by decide +kernel
theorem dX7_soldOff_61 : decode cX7_soldOff 61 = .ok (.getfield 21, 3) := by decide +kernel
theorem dX7_soldOff_64 : decode cX7_soldOff 64 = .ok (.invokevirtual 218, 3) := by decide +kernel
theorem dX7_soldOff_67 : decode cX7_soldOff 67 = .ok (.ifCond .ne 5, 3) := by decide +kernel
theorem dX7_soldOff_70 : decode cX7_soldOff 70 = .ok (.iconst (-1), 1) := by decide +kernel
theorem dX7_soldOff_71 : decode cX7_soldOff 71 = .ok (.ireturn, 1) := by decide +kernel
theorem dX7_soldOff_72 : decode cX7_soldOff 72 = .ok (.aload_n 0, 1) := by decide +kernel
theorem dX7_soldOff_73 : decode cX7_soldOff 73 = .ok (.getfield 21, 3) := by decide +kernel
theorem dX7_soldOff_76 : decode cX7_soldOff 76 = .ok (.iload_n 1, 1) := by decide +kernel
theorem dX7_soldOff_77 : decode cX7_soldOff 77 = .ok (.invokevirtual 235, 3) := by decide +kernel
theorem dX7_soldOff_80 : decode cX7_soldOff 80 = .ok (.aload_n 0, 1) := by decide +kernel
theorem dX7_soldOff_81 : decode cX7_soldOff 81 = .ok (.getfield 21, 3) := by decide +kernel
theorem dX7_soldOff_84 : decode cX7_soldOff 84 = .ok (.iload_n 2, 1) := by decide +kernel
theorem dX7_soldOff_85 : decode cX7_soldOff 85 = .ok (.invokevirtual 235, 3) := by decide +kernel
theorem dX7_soldOff_88 : decode cX7_soldOff 88 = .ok (.ior, 1) := by decide +kernel
theorem dX7_soldOff_89 : decode cX7_soldOff 89 = .ok (.istore 5, 2) := by decide +kernel
theorem dX7_soldOff_91 : decode cX7_soldOff 91 = .ok (.iconst 3, 1) := by decide +kernel
theorem dX7_soldOff_92 : decode cX7_soldOff 92 = .ok (.aload_n 0, 1) := by decide +kernel
theorem dX7_soldOff_93 : decode cX7_soldOff 93 = .ok (.getfield 21, 3) := by decide +kernel
theorem dX7_soldOff_96 : decode cX7_soldOff 96 = .ok (.iload_n 3, 1) := by decide +kernel
theorem dX7_soldOff_97 : decode cX7_soldOff 97 = .ok (.invokevirtual 88, 3) := by decide +kernel
theorem dX7_soldOff_100 : decode cX7_soldOff 100 = .ok (.isub, 1) := by decide +kernel
theorem dX7_soldOff_101 : decode cX7_soldOff 101 = .ok (.istore 6, 2) := by decide +kernel
theorem dX7_soldOff_103 : decode cX7_soldOff 103 = .ok (.iconst 0, 1) := by decide +kernel
theorem dX7_soldOff_104 : decode cX7_soldOff 104 = .ok (.istore 7, 2) := by decide +kernel
theorem dX7_soldOff_106 : decode cX7_soldOff 106 = .ok (.iload 7, 2) := by decide +kernel
theorem dX7_soldOff_108 : decode cX7_soldOff 108 = .ok (.iload 6, 2) := by decide +kernel
theorem dX7_soldOff_110 : decode cX7_soldOff 110 = .ok (.if_icmp .gt 81, 3) := by decide +kernel
theorem dX7_soldOff_113 : decode cX7_soldOff 113 = .ok (.iconst 0, 1) := by decide +kernel
theorem dX7_soldOff_114 : decode cX7_soldOff 114 = .ok (.istore 8, 2) := by decide +kernel
theorem dX7_soldOff_116 : decode cX7_soldOff 116 = .ok (.iload 8, 2) := by decide +kernel
theorem dX7_soldOff_118 : decode cX7_soldOff 118 = .ok (.iload 5, 2) := by decide +kernel
theorem dX7_soldOff_120 : decode cX7_soldOff 120 = .ok (.if_icmp .gt 65, 3) := by decide +kernel
theorem dX7_soldOff_123 : decode cX7_soldOff 123 = .ok (.iload 8, 2) := by decide +kernel
theorem dX7_soldOff_125 : decode cX7_soldOff 125 = .ok (.invokestatic 189, 3) := by decide +kernel
theorem dX7_soldOff_128 : decode cX7_soldOff 128 = .ok (.iload 7, 2) := by decide +kernel
theorem dX7_soldOff_130 : decode cX7_soldOff 130 = .ok (.if_icmp .ne 17, 3) := by decide +kernel
theorem dX7_soldOff_133 : decode cX7_soldOff 133 = .ok (.iload 8, 2) := by decide +kernel
theorem dX7_soldOff_135 : decode cX7_soldOff 135 = .ok (.iload 5, 2) := by decide +kernel
theorem dX7_soldOff_137 : decode cX7_soldOff 137 = .ok (.iconst (-1), 1) := by decide +kernel
theorem dX7_soldOff_138 : decode cX7_soldOff 138 = .ok (.ixor, 1) := by decide +kernel
theorem dX7_soldOff_139 : decode cX7_soldOff 139 = .ok (.iand, 1) := by decide +kernel
theorem dX7_soldOff_140 : decode cX7_soldOff 140 = .ok (.ifCond .ne 7, 3) := by decide +kernel
theorem dX7_soldOff_143 : decode cX7_soldOff 143 = .ok (.iconst 1, 1) := by decide +kernel
theorem dX7_soldOff_144 : decode cX7_soldOff 144 = .ok (.goto 4, 3) := by decide +kernel
theorem dX7_soldOff_147 : decode cX7_soldOff 147 = .ok (.iconst 0, 1) := by decide +kernel
theorem dX7_soldOff_148 : decode cX7_soldOff 148 = .ok (.istore 9, 2) := by decide +kernel
theorem dX7_soldOff_150 : decode cX7_soldOff 150 = .ok (.iload 9, 2) := by decide +kernel
theorem dX7_soldOff_152 : decode cX7_soldOff 152 = .ok (.ifCond .eq 27, 3) := by decide +kernel
theorem dX7_soldOff_155 : decode cX7_soldOff 155 = .ok (.aload_n 0, 1) := by decide +kernel
theorem dX7_soldOff_156 : decode cX7_soldOff 156 = .ok (.getfield 43, 3) := by decide +kernel
theorem dX7_soldOff_159 : decode cX7_soldOff 159 = .ok (.aload_n 0, 1) := by decide +kernel
theorem dX7_soldOff_160 : decode cX7_soldOff 160 = .ok (.getfield 21, 3) := by decide +kernel
theorem dX7_soldOff_163 : decode cX7_soldOff 163 = .ok (.iload_n 1, 1) := by decide +kernel
theorem dX7_soldOff_164 : decode cX7_soldOff 164 = .ok (.iload_n 2, 1) := by decide +kernel
theorem dX7_soldOff_165 : decode cX7_soldOff 165 = .ok (.iload_n 3, 1) := by decide +kernel
theorem dX7_soldOff_166 : decode cX7_soldOff 166 = .ok (.iload 8, 2) := by decide +kernel
theorem dX7_soldOff_168 : decode cX7_soldOff 168 = .ok (.invokevirtual 238, 3) := by decide +kernel
theorem dX7_soldOff_171 : decode cX7_soldOff 171 = .ok (.iload 4, 2) := by decide +kernel
theorem dX7_soldOff_173 : decode cX7_soldOff 173 = .ok (.if_icmp .gt 6, 3) := by decide +kernel
theorem dX7_soldOff_176 : decode cX7_soldOff 176 = .ok (.iload 8, 2) := by decide +kernel
theorem dX7_soldOff_178 : decode cX7_soldOff 178 = .ok (.ireturn, 1) := by decide +kernel
theorem dX7_soldOff_179 : decode cX7_soldOff 179 = .ok (.iinc 8 1, 3) := by decide +kernel
theorem dX7_soldOff_182 : decode cX7_soldOff 182 = .ok (.goto (-66), 3) := by decide +kernel
theorem dX7_soldOff_185 : decode cX7_soldOff 185 = .ok (.iinc 7 1, 3) := by decide +kernel
theorem dX7_soldOff_188 : decode cX7_soldOff 188 = .ok (.goto (-82), 3) := by decide +kernel
theorem dX7_soldOff_191 : decode cX7_soldOff 191 = .ok (.iconst (-1), 1) := by decide +kernel
theorem dX7_soldOff_192 : decode cX7_soldOff 192 = .ok (.ireturn, 1) := by decide +kernel
theorem dX7_twice_0 : decode cX7_twice 0 = .ok (.aload_n 0, 1) := by decide +kernel
theorem dX7_twice_1 : decode cX7_twice 1 = .ok (.iload_n 1, 1) := by decide +kernel
theorem dX7_twice_2 : decode cX7_twice 2 = .ok (.iload_n 2, 1) := by decide +kernel
theorem dX7_twice_3 : decode cX7_twice 3 = .ok (.invokevirtual 208, 3) := by decide +kernel
theorem dX7_twice_6 : decode cX7_twice 6 = .ok (.ifCond .ne 51, 3) := by decide +kernel
theorem dX7_twice_9 : decode cX7_twice 9 = .ok (.aload_n 0, 1) := by decide +kernel
theorem dX7_twice_10 : decode cX7_twice 10 = .ok (.iload_n 3, 1) := by decide +kernel
theorem dX7_twice_11 : decode cX7_twice 11 = .ok (.iload 4, 2) := by decide +kernel
theorem dX7_twice_13 : decode cX7_twice 13 = .ok (.invokevirtual 208, 3) := by decide +kernel
theorem dX7_twice_16 : decode cX7_twice 16 = .ok (.ifCond .ne 41, 3) := by decide +kernel
theorem dX7_twice_19 : decode cX7_twice 19 = .ok (.aload_n 0, 1) := by decide +kernel
theorem dX7_twice_20 : decode cX7_twice 20 = .ok (.iload_n 1, 1) := by decide +kernel
theorem dX7_twice_21 : decode cX7_twice 21 = .ok (.iload_n 3, 1) := by decide +kernel
theorem dX7_twice_22 : decode cX7_twice 22 = .ok (.invokevirtual 208, 3) := by decide +kernel
theorem dX7_twice_25 : decode cX7_twice 25 = .ok (.ifCond .ne 32, 3) := by decide +kernel
theorem dX7_twice_28 : decode cX7_twice 28 = .ok (.aload_n 0, 1) := by decide +kernel
theorem dX7_twice_29 : decode cX7_twice 29 = .ok (.iload_n 1, 1) := by decide +kernel
theorem dX7_twice_30 : decode cX7_twice 30 = .ok (.iload 4, 2) := by decide +kernel
theorem dX7_twice_32 : decode cX7_twice 32 = .ok (.invokevirtual 208, 3) := by decide +kernel
theorem dX7_twice_35 : decode cX7_twice 35 = .ok (.ifCond .ne 22, 3) := by decide +kernel
theorem dX7_twice_38 : decode cX7_twice 38 = .ok (.aload_n 0, 1) := by decide +kernel
theorem dX7_twice_39 : decode cX7_twice 39 = .ok (.iload_n 2, 1) := by decide +kernel
theorem dX7_twice_40 : decode cX7_twice 40 = .ok (.iload_n 3, 1) := by decide +kernel
theorem dX7_twice_41 : decode cX7_twice 41 = .ok (.invokevirtual 208, 3) := by decide +kernel
theorem dX7_twice_44 : decode cX7_twice 44 = .ok (.ifCond .ne 13, 3) := by decide +kernel
theorem dX7_twice_47 : decode cX7_twice 47 = .ok (.aload_n 0, 1) := by decide +kernel
theorem dX7_twice_48 : decode cX7_twice 48 = .ok (.iload_n 2, 1) := by decide +kernel
theorem dX7_twice_49 : decode cX7_twice 49 = .ok (.iload 4, 2) := by decide +kernel
theorem dX7_twice_51 : decode cX7_twice 51 = .ok (.invokevirtual 208, 3) := by decide +kernel
theorem dX7_twice_54 : decode cX7_twice 54 = .ok (.ifCond .eq 6, 3) := by decide +kernel
theorem dX7_twice_57 : decode cX7_twice 57 = .ok (.bipush (-101), 2) := by decide +kernel
theorem dX7_twice_59 : decode cX7_twice 59 = .ok (.ireturn, 1) := by decide +kernel
theorem dX7_twice_60 : decode cX7_twice 60 = .ok (.iload 5, 2) := by decide +kernel
theorem dX7_twice_62 : decode cX7_twice 62 = .ok (.iconst 0, 1) := by decide +kernel
theorem dX7_twice_63 : decode cX7_twice 63 = .ok (.iconst 2, 1) := by decide +kernel
theorem dX7_twice_64 : decode cX7_twice 64 = .ok (.invokestatic 72, 3) := by decide +kernel
theorem dX7_twice_67 : decode cX7_twice 67 = .ok (.ifCond .eq 6, 3) := by decide +kernel
theorem dX7_twice_70 : decode cX7_twice 70 = .ok (.bipush (-102), 2) := by decide +kernel
theorem dX7_twice_72 : decode cX7_twice 72 = .ok (.ireturn, 1) := by decide +kernel
theorem dX7_twice_73 : decode cX7_twice 73 = .ok (.aload_n 0, 1) := by decide +kernel
theorem dX7_twice_74 : decode cX7_twice 74 = .ok (.iload_n 1, 1) := by decide +kernel
theorem dX7_twice_75 : decode cX7_twice 75 = .ok (.iload_n 2, 1) := by decide +kernel
theorem dX7_twice_76 : decode cX7_twice 76 = .ok (.invokevirtual 211, 3) := by decide +kernel
theorem dX7_twice_79 : decode cX7_twice 79 = .ok (.ifCond .ne 13, 3) := by decide +kernel
theorem dX7_twice_82 : decode cX7_twice 82 = .ok (.aload_n 0, 1) := by decide +kernel
theorem dX7_twice_83 : decode cX7_twice 83 = .ok (.iload_n 3, 1) := by decide +kernel
theorem dX7_twice_84 : decode cX7_twice 84 = .ok (.iload 4, 2) := by decide +kernel
theorem dX7_twice_86 : decode cX7_twice 86 = .ok (.invokevirtual 211, 3) := by decide +kernel
theorem dX7_twice_89 : decode cX7_twice 89 = .ok (.ifCond .eq 6, 3) := by decide +kernel
theorem dX7_twice_92 : decode cX7_twice 92 = .ok (.bipush (-103), 2) := by decide +kernel
theorem dX7_twice_94 : decode cX7_twice 94 = .ok (.ireturn, 1) := by decide +kernel
theorem dX7_twice_95 : decode cX7_twice 95 = .ok (.aload_n 0, 1) := by decide +kernel
theorem dX7_twice_96 : decode cX7_twice 96 = .ok (.getfield 43, 3) := by decide +kernel
theorem dX7_twice_99 : decode cX7_twice 99 = .ok (.aload_n 0, 1) := by decide +kernel
theorem dX7_twice_100 : decode cX7_twice 100 = .ok (.getfield 21, 3) := by decide +kernel
theorem dX7_twice_103 : decode cX7_twice 103 = .ok (.invokevirtual 218, 3) := by decide +kernel
theorem dX7_twice_106 : decode cX7_twice 106 = .ok (.ifCond .ne 5, 3) := by decide +kernel
theorem dX7_twice_109 : decode cX7_twice 109 = .ok (.iconst (-1), 1) := by decide +kernel
theorem dX7_twice_110 : decode cX7_twice 110 = .ok (.ireturn, 1) := by decide +kernel
theorem dX7_twice_111 : decode cX7_twice 111 = .ok (.aload_n 0, 1) := by decide +kernel
theorem dX7_twice_112 : decode cX7_twice 112 = .ok (.getfield 43, 3) := by decide +kernel
theorem dX7_twice_115 : decode cX7_twice 115 = .ok (.aload_n 0, 1) := by decide +kernel
theorem dX7_twice_116 : decode cX7_twice 116 = .ok (.getfield 21, 3) := by decide +kernel
theorem dX7_twice_119 : decode cX7_twice 119 = .ok (.iload_n 1, 1) := by decide +kernel
theorem dX7_twice_120 : decode cX7_twice 120 = .ok (.iload_n 2, 1) := by decide +kernel
theorem dX7_twice_121 : decode cX7_twice 121 = .ok (.invokevirtual 242, 3) := by decide +kernel
theorem dX7_twice_124 : decode cX7_twice 124 = .ok (.istore 6, 2) := by decide +kernel
theorem dX7_twice_126 : decode cX7_twice 126 = .ok (.aload_n 0, 1) := by decide +kernel
theorem dX7_twice_127 : decode cX7_twice 127 = .ok (.getfield 43, 3) := by decide +kernel
theorem dX7_twice_130 : decode cX7_twice 130 = .ok (.aload_n 0, 1) := by decide +kernel
theorem dX7_twice_131 : decode cX7_twice 131 = .ok (.getfield 21, 3) := by decide +kernel
theorem dX7_twice_134 : decode cX7_twice 134 = .ok (.iload_n 3, 1) := by decide +kernel
theorem dX7_twice_135 : decode cX7_twice 135 = .ok (.iload 4, 2) := by decide +kernel
theorem dX7_twice_137 : decode cX7_twice 137 = .ok (.invokevirtual 242, 3) := by decide +kernel
theorem dX7_twice_140 : decode cX7_twice 140 = .ok (.istore 7, 2) := by decide +kernel
theorem dX7_twice_142 : decode cX7_twice 142 = .ok (.aload_n 0, 1) := by decide +kernel
theorem dX7_twice_143 : decode cX7_twice 143 = .ok (.getfield 25, 3) := by decide +kernel
theorem dX7_twice_146 : decode cX7_twice 146 = .ok (.aload_n 0, 1) := by decide +kernel
theorem dX7_twice_147 : decode cX7_twice 147 = .ok (.getfield 21, 3) := by decide +kernel
theorem dX7_twice_150 : decode cX7_twice 150 = .ok (.invokevirtual 151, 3) := by decide +kernel
theorem dX7_twice_153 : decode cX7_twice 153 = .ok (.aload_n 0, 1) := by decide +kernel
theorem dX7_twice_154 : decode cX7_twice 154 = .ok (.getfield 25, 3) := by decide +kernel
theorem dX7_twice_157 : decode cX7_twice 157 = .ok (.iload_n 2, 1) := by decide +kernel
theorem dX7_twice_158 : decode cX7_twice 158 = .ok (.iload_n 1, 1) := by decide +kernel
theorem dX7_twice_159 : decode cX7_twice 159 = .ok (.invokevirtual 214, 3) := by decide +kernel
theorem dX7_twice_162 : decode cX7_twice 162 = .ok (.aload_n 0, 1) := by decide +kernel
theorem dX7_twice_163 : decode cX7_twice 163 = .ok (.getfield 43, 3) := by decide +kernel
theorem dX7_twice_166 : decode cX7_twice 166 = .ok (.aload_n 0, 1) := by decide +kernel
theorem dX7_twice_167 : decode cX7_twice 167 = .ok (.getfield 25, 3) := by decide +kernel
theorem dX7_twice_170 : decode cX7_twice 170 = .ok (.iload_n 3, 1) := by decide +kernel
theorem dX7_twice_171 : decode cX7_twice 171 = .ok (.iload 4, 2) := by decide +kernel
theorem dX7_twice_173 : decode cX7_twice 173 = .ok (.invokevirtual 242, 3) := by decide +kernel
theorem dX7_twice_176 : decode cX7_twice 176 = .ok (.istore 8, 2) := by decide +kernel
theorem dX7_twice_178 : decode cX7_twice 178 = .ok (.iload 6, 2) := by decide +kernel
theorem dX7_twice_180 : decode cX7_twice 180 = .ok (.iconst (-1), 1) := by decide +kernel
theorem dX7_twice_181 : decode cX7_twice 181 = .ok (.if_icmp .eq 15, 3) := by decide +kernel
theorem dX7_twice_184 : decode cX7_twice 184 = .ok (.iload 7, 2) := by decide +kernel
theorem dX7_twice_186 : decode cX7_twice 186 = .ok (.iconst (-1), 1) := by decide +kernel
theorem dX7_twice_187 : decode cX7_twice 187 = .ok (.if_icmp .eq 9, 3) := by decide +kernel
theorem dX7_twice_190 : decode cX7_twice 190 = .ok (.iload 8, 2) := by decide +kernel
theorem dX7_twice_192 : decode cX7_twice 192 = .ok (.iconst (-1), 1) := by decide +kernel
theorem dX7_twice_193 : decode cX7_twice 193 = .ok (.if_icmp .ne 5, 3) := by decide +kernel
theorem dX7_twice_196 : decode cX7_twice 196 = .ok (.iconst (-1), 1) := by decide +kernel
theorem dX7_twice_197 : decode cX7_twice 197 = .ok (.ireturn, 1) := by decide +kernel
theorem dX7_twice_198 : decode cX7_twice 198 = .ok (.iload 5, 2) := by decide +kernel
theorem dX7_twice_200 : decode cX7_twice 200 = .ok (.ifCond .ne 8, 3) := by decide +kernel
theorem dX7_twice_203 : decode cX7_twice 203 = .ok (.iload 6, 2) := by decide +kernel
theorem dX7_twice_205 : decode cX7_twice 205 = .ok (.goto 16, 3) := by decide +kernel
theorem dX7_twice_208 : decode cX7_twice 208 = .ok (.iload 5, 2) := by decide +kernel
theorem dX7_twice_210 : decode cX7_twice 210 = .ok (.iconst 1, 1) := by decide +kernel
theorem dX7_twice_211 : decode cX7_twice 211 = .ok (.if_icmp .ne 8, 3) := by decide +kernel
theorem dX7_twice_214 : decode cX7_twice 214 = .ok (.iload 7, 2) := by decide +kernel
theorem dX7_twice_216 : decode cX7_twice 216 = .ok (.goto 5, 3) := by decide +kernel
theorem dX7_twice_219 : decode cX7_twice 219 = .ok (.iload 8, 2) := by decide +kernel
theorem dX7_twice_221 : decode cX7_twice 221 = .ok (.ireturn, 1) := by decide +kernel
theorem dX7_codeAt_0 : decode cX7_codeAt 0 = .ok (.lload_n 0, 1) := by decide +kernel
theorem dX7_codeAt_1 : decode cX7_codeAt 1 = .ok (.bipush 8, 2) := by decide +kernel
theorem dX7_codeAt_3 : decode cX7_codeAt 3 = .ok (.iload_n 2, 1) := by decide +kernel
theorem dX7_codeAt_4 : decode cX7_codeAt 4 = .ok (.imul, 1) := by decide +kernel
theorem dX7_codeAt_5 : decode cX7_codeAt 5 = .ok (.lushr, 1) := by decide +kernel
theorem dX7_codeAt_6 : decode cX7_codeAt 6 = .ok (.ldc2_w 256, 3) := by decide +kernel
theorem dX7_codeAt_9 : decode cX7_codeAt 9 = .ok (.land, 1) := by decide +kernel
theorem dX7_codeAt_10 : decode cX7_codeAt 10 = .ok (.l2i, 1) := by decide +kernel
theorem dX7_codeAt_11 : decode cX7_codeAt 11 = .ok (.ireturn, 1) := by decide +kernel
theorem dX7_letters_0 : decode cX7_letters 0 = .ok (.iconst 0, 1) := by decide +kernel
theorem dX7_letters_1 : decode cX7_letters 1 = .ok (.istore_n 3, 1) := by decide +kernel
theorem dX7_letters_2 : decode cX7_letters 2 = .ok (.iconst 0, 1) := by decide +kernel
theorem dX7_letters_3 : decode cX7_letters 3 = .ok (.istore 4, 2) := by decide +kernel
theorem dX7_letters_5 : decode cX7_letters 5 = .ok (.iconst 0, 1) := by decide +kernel
theorem dX7_letters_6 : decode cX7_letters 6 = .ok (.istore 5, 2) := by decide +kernel
theorem dX7_letters_8 : decode cX7_letters 8 = .ok (.iload 5, 2) := by decide +kernel
theorem dX7_letters_10 : decode cX7_letters 10 = .ok (.bipush 8, 2) := by decide +kernel
theorem dX7_letters_12 : decode cX7_letters 12 = .ok (.if_icmp .ge 62, 3) := by decide +kernel
theorem dX7_letters_15 : decode cX7_letters 15 = .ok (.lload_n 1, 1) := by decide +kernel
theorem dX7_letters_16 : decode cX7_letters 16 = .ok (.iload 5, 2) := by decide +kernel
theorem dX7_letters_18 : decode cX7_letters 18 = .ok (.invokestatic 245, 3) := by decide +kernel
theorem dX7_letters_21 : decode cX7_letters 21 = .ok (.istore 6, 2) := by decide +kernel
theorem dX7_letters_23 : decode cX7_letters 23 = .ok (.iload 6, 2) := by decide +kernel
theorem dX7_letters_25 : decode cX7_letters 25 = .ok (.bipush 126, 2) := by decide +kernel
theorem dX7_letters_27 : decode cX7_letters 27 = .ok (.if_icmp .gt 13, 3) := by decide +kernel
theorem dX7_letters_30 : decode cX7_letters 30 = .ok (.iload 4, 2) := by decide +kernel
theorem dX7_letters_32 : decode cX7_letters 32 = .ok (.ifCond .eq 11, 3) := by decide +kernel
theorem dX7_letters_35 : decode cX7_letters 35 = .ok (.iload 6, 2) := by decide +kernel
theorem dX7_letters_37 : decode cX7_letters 37 = .ok (.ifCond .eq 6, 3) := by decide +kernel
theorem dX7_letters_40 : decode cX7_letters 40 = .ok (.bipush (-102), 2) := by decide +kernel
theorem dX7_letters_42 : decode cX7_letters 42 = .ok (.ireturn, 1) := by decide +kernel
theorem dX7_letters_43 : decode cX7_letters 43 = .ok (.iload 6, 2) := by decide +kernel
theorem dX7_letters_45 : decode cX7_letters 45 = .ok (.ifCond .ne 7, 3) := by decide +kernel
theorem dX7_letters_48 : decode cX7_letters 48 = .ok (.iconst 1, 1) := by decide +kernel
theorem dX7_letters_49 : decode cX7_letters 49 = .ok (.goto 4, 3) := by decide +kernel
theorem dX7_letters_52 : decode cX7_letters 52 = .ok (.iconst 0, 1) := by decide +kernel
theorem dX7_letters_53 : decode cX7_letters 53 = .ok (.istore 4, 2) := by decide +kernel
theorem dX7_letters_55 : decode cX7_letters 55 = .ok (.iload_n 3, 1) := by decide +kernel
theorem dX7_letters_56 : decode cX7_letters 56 = .ok (.iload 4, 2) := by decide +kernel
theorem dX7_letters_58 : decode cX7_letters 58 = .ok (.ifCond .eq 7, 3) := by decide +kernel
theorem dX7_letters_61 : decode cX7_letters 61 = .ok (.iconst 0, 1) := by decide +kernel
theorem dX7_letters_62 : decode cX7_letters 62 = .ok (.goto 4, 3) := by decide +kernel
theorem dX7_letters_65 : decode cX7_letters 65 = .ok (.iconst 1, 1) := by decide +kernel
theorem dX7_letters_66 : decode cX7_letters 66 = .ok (.iadd, 1) := by decide +kernel
theorem dX7_letters_67 : decode cX7_letters 67 = .ok (.istore_n 3, 1) := by decide +kernel
theorem dX7_letters_68 : decode cX7_letters 68 = .ok (.iinc 5 1, 3) := by decide +kernel
theorem dX7_letters_71 : decode cX7_letters 71 = .ok (.goto (-63), 3) := by decide +kernel
theorem dX7_letters_74 : decode cX7_letters 74 = .ok (.aload_n 0, 1) := by decide +kernel
theorem dX7_letters_75 : decode cX7_letters 75 = .ok (.getfield 50, 3) := by decide +kernel
theorem dX7_letters_78 : decode cX7_letters 78 = .ok (.getfield 249, 3) := by decide +kernel
theorem dX7_letters_81 : decode cX7_letters 81 = .ok (.iload_n 3, 1) := by decide +kernel
theorem dX7_letters_82 : decode cX7_letters 82 = .ok (.iadd, 1) := by decide +kernel
theorem dX7_letters_83 : decode cX7_letters 83 = .ok (.bipush 50, 2) := by decide +kernel
theorem dX7_letters_85 : decode cX7_letters 85 = .ok (.if_icmp .le 6, 3) := by decide +kernel
theorem dX7_letters_88 : decode cX7_letters 88 = .ok (.bipush (-104), 2) := by decide +kernel
theorem dX7_letters_90 : decode cX7_letters 90 = .ok (.ireturn, 1) := by decide +kernel
theorem dX7_letters_91 : decode cX7_letters 91 = .ok (.iconst 0, 1) := by decide +kernel
theorem dX7_letters_92 : decode cX7_letters 92 = .ok (.istore 5, 2) := by decide +kernel
theorem dX7_letters_94 : decode cX7_letters 94 = .ok (.iload 5, 2) := by decide +kernel
theorem dX7_letters_96 : decode cX7_letters 96 = .ok (.iload_n 3, 1) := by decide +kernel
theorem dX7_letters_97 : decode cX7_letters 97 = .ok (.if_icmp .ge 23, 3) := by decide +kernel
theorem dX7_letters_100 : decode cX7_letters 100 = .ok (.aload_n 0, 1) := by decide +kernel
theorem dX7_letters_101 : decode cX7_letters 101 = .ok (.getfield 50, 3) := by decide +kernel
theorem dX7_letters_104 : decode cX7_letters 104 = .ok (.lload_n 1, 1) := by decide +kernel
theorem dX7_letters_105 : decode cX7_letters 105 = .ok (.iload 5, 2) := by decide +kernel
theorem dX7_letters_107 : decode cX7_letters 107 = .ok (.invokestatic 245, 3) := by decide +kernel
theorem dX7_letters_110 : decode cX7_letters 110 = .ok (.i2c, 1) := by decide +kernel
theorem dX7_letters_111 : decode cX7_letters 111 = .ok (.invokevirtual 252, 3) := by decide +kernel
theorem dX7_letters_114 : decode cX7_letters 114 = .ok (.iinc 5 1, 3) := by decide +kernel
theorem dX7_letters_117 : decode cX7_letters 117 = .ok (.goto (-23), 3) := by decide +kernel
theorem dX7_letters_120 : decode cX7_letters 120 = .ok (.aload_n 0, 1) := by decide +kernel
theorem dX7_letters_121 : decode cX7_letters 121 = .ok (.getfield 50, 3) := by decide +kernel
theorem dX7_letters_124 : decode cX7_letters 124 = .ok (.getfield 249, 3) := by decide +kernel
theorem dX7_letters_127 : decode cX7_letters 127 = .ok (.ireturn, 1) := by decide +kernel
theorem dX7_blank_0 : decode cX7_blank 0 = .ok (.aload_n 0, 1) := by decide +kernel
theorem dX7_blank_1 : decode cX7_blank 1 = .ok (.getfield 50, 3) := by decide +kernel
theorem dX7_blank_4 : decode cX7_blank 4 = .ok (.getfield 249, 3) := by decide +kernel
theorem dX7_blank_7 : decode cX7_blank 7 = .ok (.istore_n 1, 1) := by decide +kernel
theorem dX7_blank_8 : decode cX7_blank 8 = .ok (.aload_n 0, 1) := by decide +kernel
theorem dX7_blank_9 : decode cX7_blank 9 = .ok (.getfield 50, 3) := by decide +kernel
theorem dX7_blank_12 : decode cX7_blank 12 = .ok (.iconst 0, 1) := by decide +kernel
theorem dX7_blank_13 : decode cX7_blank 13 = .ok (.putfield 249, 3) := by decide +kernel
theorem dX7_blank_16 : decode cX7_blank 16 = .ok (.iload_n 1, 1) := by decide +kernel
theorem dX7_blank_17 : decode cX7_blank 17 = .ok (.ireturn, 1) := by decide +kernel
theorem dX7_fault_0 : decode cX7_fault 0 = .ok (.aload_n 0, 1) := by decide +kernel
theorem dX7_fault_1 : decode cX7_fault 1 = .ok (.getfield 61, 3) := by decide +kernel
theorem dX7_fault_4 : decode cX7_fault 4 = .ok (.aload_n 0, 1) := by decide +kernel
theorem dX7_fault_5 : decode cX7_fault 5 = .ok (.getfield 50, 3) := by decide +kernel
theorem dX7_fault_8 : decode cX7_fault 8 = .ok (.invokevirtual 258, 3) := by decide +kernel
theorem dX7_fault_11 : decode cX7_fault 11 = .ok (.ireturn, 1) := by decide +kernel
theorem dX7_test_0 : decode cX7_test 0 = .ok (.aload_n 0, 1) := by decide +kernel
theorem dX7_test_1 : decode cX7_test 1 = .ok (.getfield 61, 3) := by decide +kernel
theorem dX7_test_4 : decode cX7_test 4 = .ok (.aload_n 0, 1) := by decide +kernel
theorem dX7_test_5 : decode cX7_test 5 = .ok (.getfield 50, 3) := by decide +kernel
theorem dX7_test_8 : decode cX7_test 8 = .ok (.invokevirtual 262, 3) := by decide +kernel
theorem dX7_test_11 : decode cX7_test 11 = .ok (.ifCond .ne 6, 3) := by decide +kernel
theorem dX7_test_14 : decode cX7_test 14 = .ok (.bipush (-103), 2) := by decide +kernel
theorem dX7_test_16 : decode cX7_test 16 = .ok (.ireturn, 1) := by decide +kernel
theorem dX7_test_17 : decode cX7_test 17 = .ok (.aload_n 0, 1) := by decide +kernel
theorem dX7_test_18 : decode cX7_test 18 = .ok (.getfield 266, 3) := by decide +kernel
theorem dX7_test_21 : decode cX7_test 21 = .ok (.aload_n 0, 1) := by decide +kernel
theorem dX7_test_22 : decode cX7_test 22 = .ok (.getfield 54, 3) := by decide +kernel
theorem dX7_test_25 : decode cX7_test 25 = .ok (.arraylength, 1) := by decide +kernel
theorem dX7_test_26 : decode cX7_test 26 = .ok (.if_icmp .lt 6, 3) := by decide +kernel
theorem dX7_test_29 : decode cX7_test 29 = .ok (.bipush (-104), 2) := by decide +kernel
theorem dX7_test_31 : decode cX7_test 31 = .ok (.ireturn, 1) := by decide +kernel
theorem dX7_test_32 : decode cX7_test 32 = .ok (.aload_n 0, 1) := by decide +kernel
theorem dX7_test_33 : decode cX7_test 33 = .ok (.getfield 54, 3) := by decide +kernel
theorem dX7_test_36 : decode cX7_test 36 = .ok (.aload_n 0, 1) := by decide +kernel
theorem dX7_test_37 : decode cX7_test 37 = .ok (.getfield 266, 3) := by decide +kernel
theorem dX7_test_40 : decode cX7_test 40 = .ok (.aaload, 1) := by decide +kernel
theorem dX7_test_41 : decode cX7_test 41 = .ok (.aload_n 0, 1) := by decide +kernel
theorem dX7_test_42 : decode cX7_test 42 = .ok (.getfield 50, 3) := by decide +kernel
theorem dX7_test_45 : decode cX7_test 45 = .ok (.invokevirtual 269, 3) := by decide +kernel
theorem dX7_test_48 : decode cX7_test 48 = .ok (.aload_n 0, 1) := by decide +kernel
theorem dX7_test_49 : decode cX7_test 49 = .ok (.getfield 50, 3) := by decide +kernel
theorem dX7_test_52 : decode cX7_test 52 = .ok (.iconst 0, 1) := by decide +kernel
theorem dX7_test_53 : decode cX7_test 53 = .ok (.putfield 249, 3) := by decide +kernel
theorem dX7_test_56 : decode cX7_test 56 = .ok (.aload_n 0, 1) := by decide +kernel
theorem dX7_test_57 : decode cX7_test 57 = .ok (.dup, 1) := by decide +kernel
theorem dX7_test_58 : decode cX7_test 58 = .ok (.getfield 266, 3) := by decide +kernel
theorem dX7_test_61 : decode cX7_test 61 = .ok (.iconst 1, 1) := by decide +kernel
theorem dX7_test_62 : decode cX7_test 62 = .ok (.iadd, 1) := by decide +kernel
theorem dX7_test_63 : decode cX7_test 63 = .ok (.putfield 266, 3) := by decide +kernel
theorem dX7_test_66 : decode cX7_test 66 = .ok (.aload_n 0, 1) := by decide +kernel
theorem dX7_test_67 : decode cX7_test 67 = .ok (.getfield 266, 3) := by decide +kernel
theorem dX7_test_70 : decode cX7_test 70 = .ok (.iconst 1, 1) := by decide +kernel
theorem dX7_test_71 : decode cX7_test 71 = .ok (.isub, 1) := by decide +kernel
theorem dX7_test_72 : decode cX7_test 72 = .ok (.ireturn, 1) := by decide +kernel
theorem dX7_isNoTest_0 : decode cX7_isNoTest 0 = .ok (.iload_n 1, 1) := by decide +kernel
theorem dX7_isNoTest_1 : decode cX7_isNoTest 1 = .ok (.iconst 0, 1) := by decide +kernel
theorem dX7_isNoTest_2 : decode cX7_isNoTest 2 = .ok (.aload_n 0, 1) := by decide +kernel
theorem dX7_isNoTest_3 : decode cX7_isNoTest 3 = .ok (.getfield 266, 3) := by decide +kernel
theorem dX7_isNoTest_6 : decode cX7_isNoTest 6 = .ok (.iconst 1, 1) := by decide +kernel
theorem dX7_isNoTest_7 : decode cX7_isNoTest 7 = .ok (.isub, 1) := by decide +kernel
theorem dX7_isNoTest_8 : decode cX7_isNoTest 8 = .ok (.invokestatic 72, 3) := by decide +kernel
theorem dX7_isNoTest_11 : decode cX7_isNoTest 11 = .ok (.ireturn, 1) := by decide +kernel
theorem dX7_isBarred_0 : decode cX7_isBarred 0 = .ok (.aload_n 0, 1) := by decide +kernel
theorem dX7_isBarred_1 : decode cX7_isBarred 1 = .ok (.getfield 68, 3) := by decide +kernel
theorem dX7_isBarred_4 : decode cX7_isBarred 4 = .ok (.aload_n 0, 1) := by decide +kernel
theorem dX7_isBarred_5 : decode cX7_isBarred 5 = .ok (.getfield 21, 3) := by decide +kernel
theorem dX7_isBarred_8 : decode cX7_isBarred 8 = .ok (.iload_n 2, 1) := by decide +kernel
theorem dX7_isBarred_9 : decode cX7_isBarred 9 = .ok (.iload_n 3, 1) := by decide +kernel
theorem dX7_isBarred_10 : decode cX7_isBarred 10 = .ok (.invokevirtual 278, 3) := by decide +kernel
theorem dX7_isBarred_13 : decode cX7_isBarred 13 = .ok (.aload_n 0, 1) := by decide +kernel
theorem dX7_isBarred_14 : decode cX7_isBarred 14 = .ok (.getfield 68, 3) := by decide +kernel
theorem dX7_isBarred_17 : decode cX7_isBarred 17 = .ok (.aload_n 0, 1) := by decide +kernel
theorem dX7_isBarred_18 : decode cX7_isBarred 18 = .ok (.getfield 54, 3) := by decide +kernel
theorem dX7_isBarred_21 : decode cX7_isBarred 21 = .ok (.iload_n 1, 1) := by decide +kernel
theorem dX7_isBarred_22 : decode cX7_isBarred 22 = .ok (.aaload, 1) := by decide +kernel
theorem dX7_isBarred_23 : decode cX7_isBarred 23 = .ok (.invokevirtual 282, 3) := by decide +kernel
theorem dX7_isBarred_26 : decode cX7_isBarred 26 = .ok (.ireturn, 1) := by decide +kernel
theorem dX7_bars_0 : decode cX7_bars 0 = .ok (.aload_n 0, 1) := by decide +kernel
theorem dX7_bars_1 : decode cX7_bars 1 = .ok (.iload_n 1, 1) := by decide +kernel
theorem dX7_bars_2 : decode cX7_bars 2 = .ok (.invokevirtual 272, 3) := by decide +kernel
theorem dX7_bars_5 : decode cX7_bars 5 = .ok (.ifCond .ne 12, 3) := by decide +kernel
theorem dX7_bars_8 : decode cX7_bars 8 = .ok (.aload_n 0, 1) := by decide +kernel
theorem dX7_bars_9 : decode cX7_bars 9 = .ok (.iload_n 2, 1) := by decide +kernel
theorem dX7_bars_10 : decode cX7_bars 10 = .ok (.iload_n 3, 1) := by decide +kernel
theorem dX7_bars_11 : decode cX7_bars 11 = .ok (.invokevirtual 208, 3) := by decide +kernel
theorem dX7_bars_14 : decode cX7_bars 14 = .ok (.ifCond .eq 6, 3) := by decide +kernel
theorem dX7_bars_17 : decode cX7_bars 17 = .ok (.bipush (-101), 2) := by decide +kernel
theorem dX7_bars_19 : decode cX7_bars 19 = .ok (.ireturn, 1) := by decide +kernel
theorem dX7_bars_20 : decode cX7_bars 20 = .ok (.aload_n 0, 1) := by decide +kernel
theorem dX7_bars_21 : decode cX7_bars 21 = .ok (.iload_n 1, 1) := by decide +kernel
theorem dX7_bars_22 : decode cX7_bars 22 = .ok (.iload_n 2, 1) := by decide +kernel
theorem dX7_bars_23 : decode cX7_bars 23 = .ok (.iload_n 3, 1) := by decide +kernel
theorem dX7_bars_24 : decode cX7_bars 24 = .ok (.invokevirtual 275, 3) := by decide +kernel
theorem dX7_bars_27 : decode cX7_bars 27 = .ok (.ifCond .eq 7, 3) := by decide +kernel
theorem dX7_bars_30 : decode cX7_bars 30 = .ok (.iconst 1, 1) := by decide +kernel
theorem dX7_bars_31 : decode cX7_bars 31 = .ok (.goto 4, 3) := by decide +kernel
theorem dX7_bars_34 : decode cX7_bars 34 = .ok (.iconst 0, 1) := by decide +kernel
theorem dX7_bars_35 : decode cX7_bars 35 = .ok (.ireturn, 1) := by decide +kernel
theorem dX7_isWrong_0 : decode cX7_isWrong 0 = .ok (.iload_n 2, 1) := by decide +kernel
theorem dX7_isWrong_1 : decode cX7_isWrong 1 = .ok (.iconst (-1), 1) := by decide +kernel
theorem dX7_isWrong_2 : decode cX7_isWrong 2 = .ok (.if_icmp .eq 25, 3) := by decide +kernel
theorem dX7_isWrong_5 : decode cX7_isWrong 5 = .ok (.iload_n 0, 1) := by decide +kernel
theorem dX7_isWrong_6 : decode cX7_isWrong 6 = .ok (.iload_n 1, 1) := by decide +kernel
theorem dX7_isWrong_7 : decode cX7_isWrong 7 = .ok (.if_icmp .ne 20, 3) := by decide +kernel
theorem dX7_isWrong_10 : decode cX7_isWrong 10 = .ok (.iload_n 2, 1) := by decide +kernel
theorem dX7_isWrong_11 : decode cX7_isWrong 11 = .ok (.ifCond .ne 7, 3) := by decide +kernel
theorem dX7_isWrong_14 : decode cX7_isWrong 14 = .ok (.iconst 1, 1) := by decide +kernel
theorem dX7_isWrong_15 : decode cX7_isWrong 15 = .ok (.goto 4, 3) := by decide +kernel
theorem dX7_isWrong_18 : decode cX7_isWrong 18 = .ok (.iconst 0, 1) := by decide +kernel
theorem dX7_isWrong_19 : decode cX7_isWrong 19 = .ok (.iload_n 1, 1) := by decide +kernel
theorem dX7_isWrong_20 : decode cX7_isWrong 20 = .ok (.if_icmp .ne 7, 3) := by decide +kernel
theorem dX7_isWrong_23 : decode cX7_isWrong 23 = .ok (.iconst 1, 1) := by decide +kernel
theorem dX7_isWrong_24 : decode cX7_isWrong 24 = .ok (.goto 4, 3) := by decide +kernel
theorem dX7_isWrong_27 : decode cX7_isWrong 27 = .ok (.iconst 0, 1) := by decide +kernel
theorem dX7_isWrong_28 : decode cX7_isWrong 28 = .ok (.ireturn, 1) := by decide +kernel
theorem dX7_wrong_0 : decode cX7_wrong 0 = .ok (.aload_n 0, 1) := by decide +kernel
theorem dX7_wrong_1 : decode cX7_wrong 1 = .ok (.iload_n 1, 1) := by decide +kernel
theorem dX7_wrong_2 : decode cX7_wrong 2 = .ok (.invokevirtual 272, 3) := by decide +kernel
theorem dX7_wrong_5 : decode cX7_wrong 5 = .ok (.ifCond .eq 6, 3) := by decide +kernel
theorem dX7_wrong_8 : decode cX7_wrong 8 = .ok (.bipush (-101), 2) := by decide +kernel
theorem dX7_wrong_10 : decode cX7_wrong 10 = .ok (.ireturn, 1) := by decide +kernel
theorem dX7_wrong_11 : decode cX7_wrong 11 = .ok (.iload_n 2, 1) := by decide +kernel
theorem dX7_wrong_12 : decode cX7_wrong 12 = .ok (.iconst 0, 1) := by decide +kernel
theorem dX7_wrong_13 : decode cX7_wrong 13 = .ok (.iconst 1, 1) := by decide +kernel
theorem dX7_wrong_14 : decode cX7_wrong 14 = .ok (.invokestatic 72, 3) := by decide +kernel
theorem dX7_wrong_17 : decode cX7_wrong 17 = .ok (.ifCond .eq 6, 3) := by decide +kernel
theorem dX7_wrong_20 : decode cX7_wrong 20 = .ok (.bipush (-102), 2) := by decide +kernel
theorem dX7_wrong_22 : decode cX7_wrong 22 = .ok (.ireturn, 1) := by decide +kernel
theorem dX7_wrong_23 : decode cX7_wrong 23 = .ok (.aload_n 0, 1) := by decide +kernel
theorem dX7_wrong_24 : decode cX7_wrong 24 = .ok (.getfield 285, 3) := by decide +kernel
theorem dX7_wrong_27 : decode cX7_wrong 27 = .ok (.bipush 6, 2) := by decide +kernel
theorem dX7_wrong_29 : decode cX7_wrong 29 = .ok (.if_icmp .lt 6, 3) := by decide +kernel
theorem dX7_wrong_32 : decode cX7_wrong 32 = .ok (.bipush (-103), 2) := by decide +kernel
theorem dX7_wrong_34 : decode cX7_wrong 34 = .ok (.ireturn, 1) := by decide +kernel
theorem dX7_wrong_35 : decode cX7_wrong 35 = .ok (.aload_n 0, 1) := by decide +kernel
theorem dX7_wrong_36 : decode cX7_wrong 36 = .ok (.dup, 1) := by decide +kernel
theorem dX7_wrong_37 : decode cX7_wrong 37 = .ok (.getfield 285, 3) := by decide +kernel
theorem dX7_wrong_40 : decode cX7_wrong 40 = .ok (.iconst 1, 1) := by decide +kernel
theorem dX7_wrong_41 : decode cX7_wrong 41 = .ok (.iadd, 1) := by decide +kernel
theorem dX7_wrong_42 : decode cX7_wrong 42 = .ok (.putfield 285, 3) := by decide +kernel
theorem dX7_wrong_45 : decode cX7_wrong 45 = .ok (.aload_n 0, 1) := by decide +kernel
theorem dX7_wrong_46 : decode cX7_wrong 46 = .ok (.getfield 43, 3) := by decide +kernel
theorem dX7_wrong_49 : decode cX7_wrong 49 = .ok (.aload_n 0, 1) := by decide +kernel
theorem dX7_wrong_50 : decode cX7_wrong 50 = .ok (.getfield 21, 3) := by decide +kernel
theorem dX7_wrong_53 : decode cX7_wrong 53 = .ok (.invokevirtual 218, 3) := by decide +kernel
theorem dX7_wrong_56 : decode cX7_wrong 56 = .ok (.ifCond .ne 5, 3) := by decide +kernel
theorem dX7_wrong_59 : decode cX7_wrong 59 = .ok (.iconst 0, 1) := by decide +kernel
theorem dX7_wrong_60 : decode cX7_wrong 60 = .ok (.ireturn, 1) := by decide +kernel
theorem dX7_wrong_61 : decode cX7_wrong 61 = .ok (.iconst 0, 1) := by decide +kernel
theorem dX7_wrong_62 : decode cX7_wrong 62 = .ok (.istore_n 3, 1) := by decide +kernel
theorem dX7_wrong_63 : decode cX7_wrong 63 = .ok (.iconst 0, 1) := by decide +kernel
theorem dX7_wrong_64 : decode cX7_wrong 64 = .ok (.istore 4, 2) := by decide +kernel
theorem dX7_wrong_66 : decode cX7_wrong 66 = .ok (.iload 4, 2) := by decide +kernel
theorem dX7_wrong_68 : decode cX7_wrong 68 = .ok (.aload_n 0, 1) := by decide +kernel
theorem dX7_wrong_69 : decode cX7_wrong 69 = .ok (.getfield 10, 3) := by decide +kernel
theorem dX7_wrong_72 : decode cX7_wrong 72 = .ok (.getfield 159, 3) := by decide +kernel
theorem dX7_wrong_75 : decode cX7_wrong 75 = .ok (.if_icmp .ge 87, 3) := by decide +kernel
theorem dX7_wrong_78 : decode cX7_wrong 78 = .ok (.iload 4, 2) := by decide +kernel
theorem dX7_wrong_80 : decode cX7_wrong 80 = .ok (.iconst 1, 1) := by decide +kernel
theorem dX7_wrong_81 : decode cX7_wrong 81 = .ok (.iadd, 1) := by decide +kernel
theorem dX7_wrong_82 : decode cX7_wrong 82 = .ok (.istore 5, 2) := by decide +kernel
theorem dX7_wrong_84 : decode cX7_wrong 84 = .ok (.iload 5, 2) := by decide +kernel
theorem dX7_wrong_86 : decode cX7_wrong 86 = .ok (.aload_n 0, 1) := by decide +kernel
theorem dX7_wrong_87 : decode cX7_wrong 87 = .ok (.getfield 10, 3) := by decide +kernel
theorem dX7_wrong_90 : decode cX7_wrong 90 = .ok (.getfield 159, 3) := by decide +kernel
theorem dX7_wrong_93 : decode cX7_wrong 93 = .ok (.if_icmp .ge 63, 3) := by decide +kernel
theorem dX7_wrong_96 : decode cX7_wrong 96 = .ok (.aload_n 0, 1) := by decide +kernel
theorem dX7_wrong_97 : decode cX7_wrong 97 = .ok (.iload 4, 2) := by decide +kernel
theorem dX7_wrong_99 : decode cX7_wrong 99 = .ok (.iload 5, 2) := by decide +kernel
theorem dX7_wrong_101 : decode cX7_wrong 101 = .ok (.invokevirtual 211, 3) := by decide +kernel
theorem dX7_wrong_104 : decode cX7_wrong 104 = .ok (.ifCond .ne 46, 3) := by decide +kernel
theorem dX7_wrong_107 : decode cX7_wrong 107 = .ok (.aload_n 0, 1) := by decide +kernel
theorem dX7_wrong_108 : decode cX7_wrong 108 = .ok (.iload_n 1, 1) := by decide +kernel
theorem dX7_wrong_109 : decode cX7_wrong 109 = .ok (.iload 4, 2) := by decide +kernel
theorem dX7_wrong_111 : decode cX7_wrong 111 = .ok (.iload 5, 2) := by decide +kernel
theorem dX7_wrong_113 : decode cX7_wrong 113 = .ok (.invokevirtual 275, 3) := by decide +kernel
theorem dX7_wrong_116 : decode cX7_wrong 116 = .ok (.iload_n 2, 1) := by decide +kernel
theorem dX7_wrong_117 : decode cX7_wrong 117 = .ok (.iconst 1, 1) := by decide +kernel
theorem dX7_wrong_118 : decode cX7_wrong 118 = .ok (.if_icmp .ne 7, 3) := by decide +kernel
theorem dX7_wrong_121 : decode cX7_wrong 121 = .ok (.iconst 1, 1) := by decide +kernel
theorem dX7_wrong_122 : decode cX7_wrong 122 = .ok (.goto 4, 3) := by decide +kernel
theorem dX7_wrong_125 : decode cX7_wrong 125 = .ok (.iconst 0, 1) := by decide +kernel
theorem dX7_wrong_126 : decode cX7_wrong 126 = .ok (.aload_n 0, 1) := by decide +kernel
theorem dX7_wrong_127 : decode cX7_wrong 127 = .ok (.getfield 43, 3) := by decide +kernel
theorem dX7_wrong_130 : decode cX7_wrong 130 = .ok (.aload_n 0, 1) := by decide +kernel
theorem dX7_wrong_131 : decode cX7_wrong 131 = .ok (.getfield 21, 3) := by decide +kernel
theorem dX7_wrong_134 : decode cX7_wrong 134 = .ok (.iload 4, 2) := by decide +kernel
theorem dX7_wrong_136 : decode cX7_wrong 136 = .ok (.iload 5, 2) := by decide +kernel
theorem dX7_wrong_138 : decode cX7_wrong 138 = .ok (.invokevirtual 242, 3) := by decide +kernel
theorem dX7_wrong_141 : decode cX7_wrong 141 = .ok (.invokestatic 288, 3) := by decide +kernel
theorem dX7_wrong_144 : decode cX7_wrong 144 = .ok (.ifCond .eq 6, 3) := by decide +kernel
theorem dX7_wrong_147 : decode cX7_wrong 147 = .ok (.iinc 3 1, 3) := by decide +kernel
theorem dX7_wrong_150 : decode cX7_wrong 150 = .ok (.iinc 5 1, 3) := by decide +kernel
theorem dX7_wrong_153 : decode cX7_wrong 153 = .ok (.goto (-69), 3) := by decide +kernel
theorem dX7_wrong_156 : decode cX7_wrong 156 = .ok (.iinc 4 1, 3) := by decide +kernel
theorem dX7_wrong_159 : decode cX7_wrong 159 = .ok (.goto (-93), 3) := by decide +kernel
theorem dX7_wrong_162 : decode cX7_wrong 162 = .ok (.iload_n 3, 1) := by decide +kernel
theorem dX7_wrong_163 : decode cX7_wrong 163 = .ok (.ireturn, 1) := by decide +kernel
theorem dX7_image_0 : decode cX7_image 0 = .ok (.aload_n 0, 1) := by decide +kernel
theorem dX7_image_1 : decode cX7_image 1 = .ok (.getfield 28, 3) := by decide +kernel
theorem dX7_image_4 : decode cX7_image 4 = .ok (.aload_n 0, 1) := by decide +kernel
theorem dX7_image_5 : decode cX7_image 5 = .ok (.getfield 21, 3) := by decide +kernel
theorem dX7_image_8 : decode cX7_image 8 = .ok (.invokevirtual 151, 3) := by decide +kernel
theorem dX7_image_11 : decode cX7_image 11 = .ok (.aload_n 0, 1) := by decide +kernel
theorem dX7_image_12 : decode cX7_image 12 = .ok (.iconst 1, 1) := by decide +kernel
theorem dX7_image_13 : decode cX7_image 13 = .ok (.putfield 292, 3) := by decide +kernel
theorem dX7_image_16 : decode cX7_image 16 = .ok (.aload_n 0, 1) := by decide +kernel
theorem dX7_image_17 : decode cX7_image 17 = .ok (.aload_n 0, 1) := by decide +kernel
theorem dX7_image_18 : decode cX7_image 18 = .ok (.getfield 10, 3) := by decide +kernel
theorem dX7_image_21 : decode cX7_image 21 = .ok (.getfield 159, 3) := by decide +kernel
theorem dX7_image_24 : decode cX7_image 24 = .ok (.putfield 295, 3) := by decide +kernel
theorem dX7_image_27 : decode cX7_image 27 = .ok (.aload_n 0, 1) := by decide +kernel
theorem dX7_image_28 : decode cX7_image 28 = .ok (.aload_n 0, 1) := by decide +kernel
theorem dX7_image_29 : decode cX7_image 29 = .ok (.getfield 10, 3) := by decide +kernel
theorem dX7_image_32 : decode cX7_image 32 = .ok (.getfield 175, 3) := by decide +kernel
theorem dX7_image_35 : decode cX7_image 35 = .ok (.putfield 298, 3) := by decide +kernel
theorem dX7_image_38 : decode cX7_image 38 = .ok (.aload_n 0, 1) := by decide +kernel
theorem dX7_image_39 : decode cX7_image 39 = .ok (.getfield 298, 3) := by decide +kernel
theorem dX7_image_42 : decode cX7_image 42 = .ok (.ireturn, 1) := by decide +kernel
theorem dX7_restore_0 : decode cX7_restore 0 = .ok (.aload_n 0, 1) := by decide +kernel
theorem dX7_restore_1 : decode cX7_restore 1 = .ok (.getfield 292, 3) := by decide +kernel
theorem dX7_restore_4 : decode cX7_restore 4 = .ok (.ifCond .eq 17, 3) := by decide +kernel
theorem dX7_restore_7 : decode cX7_restore 7 = .ok (.aload_n 0, 1) := by decide +kernel
theorem dX7_restore_8 : decode cX7_restore 8 = .ok (.getfield 298, 3) := by decide +kernel
theorem dX7_restore_11 : decode cX7_restore 11 = .ok (.aload_n 0, 1) := by decide +kernel
theorem dX7_restore_12 : decode cX7_restore 12 = .ok (.getfield 10, 3) := by decide +kernel
theorem dX7_restore_15 : decode cX7_restore 15 = .ok (.getfield 175, 3) := by decide +kernel
theorem dX7_restore_18 : decode cX7_restore 18 = .ok (.if_icmp .eq 6, 3) := by decide +kernel
theorem dX7_restore_21 : decode cX7_restore 21 = .ok (.bipush (-103), 2) := by decide +kernel
theorem dX7_restore_23 : decode cX7_restore 23 = .ok (.ireturn, 1) := by decide +kernel
theorem dX7_restore_24 : decode cX7_restore 24 = .ok (.aload_n 0, 1) := by decide +kernel
theorem dX7_restore_25 : decode cX7_restore 25 = .ok (.getfield 295, 3) := by decide +kernel
theorem dX7_restore_28 : decode cX7_restore 28 = .ok (.istore_n 1, 1) := by decide +kernel
theorem dX7_restore_29 : decode cX7_restore 29 = .ok (.iload_n 1, 1) := by decide +kernel
theorem dX7_restore_30 : decode cX7_restore 30 = .ok (.aload_n 0, 1) := by decide +kernel
theorem dX7_restore_31 : decode cX7_restore 31 = .ok (.getfield 10, 3) := by decide +kernel
theorem dX7_restore_34 : decode cX7_restore 34 = .ok (.getfield 159, 3) := by decide +kernel
theorem dX7_restore_37 : decode cX7_restore 37 = .ok (.if_icmp .ge 27, 3) := by decide +kernel
theorem dX7_restore_40 : decode cX7_restore 40 = .ok (.aload_n 0, 1) := by decide +kernel
theorem dX7_restore_41 : decode cX7_restore 41 = .ok (.getfield 28, 3) := by decide +kernel
theorem dX7_restore_44 : decode cX7_restore 44 = .ok (.getfield 301, 3) := by decide +kernel
theorem dX7_restore_47 : decode cX7_restore 47 = .ok (.iload_n 1, 1) := by decide +kernel
theorem dX7_restore_48 : decode cX7_restore 48 = .ok (.aload_n 0, 1) := by decide +kernel
theorem dX7_restore_49 : decode cX7_restore 49 = .ok (.getfield 21, 3) := by decide +kernel
theorem dX7_restore_52 : decode cX7_restore 52 = .ok (.getfield 301, 3) := by decide +kernel
theorem dX7_restore_55 : decode cX7_restore 55 = .ok (.iload_n 1, 1) := by decide +kernel
theorem dX7_restore_56 : decode cX7_restore 56 = .ok (.baload, 1) := by decide +kernel
theorem dX7_restore_57 : decode cX7_restore 57 = .ok (.bastore, 1) := by decide +kernel
theorem dX7_restore_58 : decode cX7_restore 58 = .ok (.iinc 1 1, 3) := by decide +kernel
theorem dX7_restore_61 : decode cX7_restore 61 = .ok (.goto (-32), 3) := by decide +kernel
theorem dX7_restore_64 : decode cX7_restore 64 = .ok (.aload_n 0, 1) := by decide +kernel
theorem dX7_restore_65 : decode cX7_restore 65 = .ok (.getfield 21, 3) := by decide +kernel
theorem dX7_restore_68 : decode cX7_restore 68 = .ok (.aload_n 0, 1) := by decide +kernel
theorem dX7_restore_69 : decode cX7_restore 69 = .ok (.getfield 28, 3) := by decide +kernel
theorem dX7_restore_72 : decode cX7_restore 72 = .ok (.invokevirtual 151, 3) := by decide +kernel
theorem dX7_restore_75 : decode cX7_restore 75 = .ok (.aload_n 0, 1) := by decide +kernel
theorem dX7_restore_76 : decode cX7_restore 76 = .ok (.getfield 298, 3) := by decide +kernel
theorem dX7_restore_79 : decode cX7_restore 79 = .ok (.ireturn, 1) := by decide +kernel
theorem dX7_count_0 : decode cX7_count 0 = .ok (.iload_n 1, 1) := by decide +kernel
theorem dX7_count_1 : decode cX7_count 1 = .ok (.tableswitch 94 0 6 #[43, 51, 59, 67, 72, 80, 89], 43) := by decide +kernel
theorem dX7_count_44 : decode cX7_count 44 = .ok (.aload_n 0, 1) := by decide +kernel
theorem dX7_count_45 : decode cX7_count 45 = .ok (.getfield 10, 3) := by decide +kernel
theorem dX7_count_48 : decode cX7_count 48 = .ok (.getfield 159, 3) := by decide +kernel
theorem dX7_count_51 : decode cX7_count 51 = .ok (.ireturn, 1) := by decide +kernel
theorem dX7_count_52 : decode cX7_count 52 = .ok (.aload_n 0, 1) := by decide +kernel
theorem dX7_count_53 : decode cX7_count 53 = .ok (.getfield 10, 3) := by decide +kernel
theorem dX7_count_56 : decode cX7_count 56 = .ok (.getfield 175, 3) := by decide +kernel
theorem dX7_count_59 : decode cX7_count 59 = .ok (.ireturn, 1) := by decide +kernel
theorem dX7_count_60 : decode cX7_count 60 = .ok (.aload_n 0, 1) := by decide +kernel
theorem dX7_count_61 : decode cX7_count 61 = .ok (.getfield 10, 3) := by decide +kernel
theorem dX7_count_64 : decode cX7_count 64 = .ok (.getfield 202, 3) := by decide +kernel
theorem dX7_count_67 : decode cX7_count 67 = .ok (.ireturn, 1) := by decide +kernel
theorem dX7_count_68 : decode cX7_count 68 = .ok (.aload_n 0, 1) := by decide +kernel
theorem dX7_count_69 : decode cX7_count 69 = .ok (.getfield 266, 3) := by decide +kernel
theorem dX7_count_72 : decode cX7_count 72 = .ok (.ireturn, 1) := by decide +kernel
theorem dX7_count_73 : decode cX7_count 73 = .ok (.aload_n 0, 1) := by decide +kernel
theorem dX7_count_74 : decode cX7_count 74 = .ok (.getfield 50, 3) := by decide +kernel
theorem dX7_count_77 : decode cX7_count 77 = .ok (.getfield 249, 3) := by decide +kernel
theorem dX7_count_80 : decode cX7_count 80 = .ok (.ireturn, 1) := by decide +kernel
theorem dX7_count_81 : decode cX7_count 81 = .ok (.aload_n 0, 1) := by decide +kernel
theorem dX7_count_82 : decode cX7_count 82 = .ok (.getfield 21, 3) := by decide +kernel
theorem dX7_count_85 : decode cX7_count 85 = .ok (.iconst (-1), 1) := by decide +kernel
theorem dX7_count_86 : decode cX7_count 86 = .ok (.invokevirtual 113, 3) := by decide +kernel
theorem dX7_count_89 : decode cX7_count 89 = .ok (.ireturn, 1) := by decide +kernel
theorem dX7_count_90 : decode cX7_count 90 = .ok (.aload_n 0, 1) := by decide +kernel
theorem dX7_count_91 : decode cX7_count 91 = .ok (.getfield 285, 3) := by decide +kernel
theorem dX7_count_94 : decode cX7_count 94 = .ok (.ireturn, 1) := by decide +kernel
theorem dX7_count_95 : decode cX7_count 95 = .ok (.bipush (-102), 2) := by decide +kernel
theorem dX7_count_97 : decode cX7_count 97 = .ok (.ireturn, 1) := by decide +kernel
theorem dX7_mix_0 : decode cX7_mix 0 = .ok (.ldc2_w 328, 3) := by decide +kernel
theorem dX7_mix_3 : decode cX7_mix 3 = .ok (.lload_n 0, 1) := by decide +kernel
theorem dX7_mix_4 : decode cX7_mix 4 = .ok (.lmul, 1) := by decide +kernel
theorem dX7_mix_5 : decode cX7_mix 5 = .ok (.lload_n 2, 1) := by decide +kernel
theorem dX7_mix_6 : decode cX7_mix 6 = .ok (.ladd, 1) := by decide +kernel
theorem dX7_mix_7 : decode cX7_mix 7 = .ok (.lreturn, 1) := by decide +kernel
theorem dX7_mixStreet_0 : decode cX7_mixStreet 0 = .ok (.lload_n 1, 1) := by decide +kernel
theorem dX7_mixStreet_1 : decode cX7_mixStreet 1 = .ok (.lstore_n 3, 1) := by decide +kernel
theorem dX7_mixStreet_2 : decode cX7_mixStreet 2 = .ok (.iconst 0, 1) := by decide +kernel
theorem dX7_mixStreet_3 : decode cX7_mixStreet 3 = .ok (.istore 5, 2) := by decide +kernel
theorem dX7_mixStreet_5 : decode cX7_mixStreet 5 = .ok (.iload 5, 2) := by decide +kernel
theorem dX7_mixStreet_7 : decode cX7_mixStreet 7 = .ok (.aload_n 0, 1) := by decide +kernel
theorem dX7_mixStreet_8 : decode cX7_mixStreet 8 = .ok (.getfield 10, 3) := by decide +kernel
theorem dX7_mixStreet_11 : decode cX7_mixStreet 11 = .ok (.getfield 159, 3) := by decide +kernel
theorem dX7_mixStreet_14 : decode cX7_mixStreet 14 = .ok (.if_icmp .ge 56, 3) := by decide +kernel
theorem dX7_mixStreet_17 : decode cX7_mixStreet 17 = .ok (.lload_n 3, 1) := by decide +kernel
theorem dX7_mixStreet_18 : decode cX7_mixStreet 18 = .ok (.aload_n 0, 1) := by decide +kernel
theorem dX7_mixStreet_19 : decode cX7_mixStreet 19 = .ok (.getfield 10, 3) := by decide +kernel
theorem dX7_mixStreet_22 : decode cX7_mixStreet 22 = .ok (.getfield 84, 3) := by decide +kernel
theorem dX7_mixStreet_25 : decode cX7_mixStreet 25 = .ok (.iload 5, 2) := by decide +kernel
theorem dX7_mixStreet_27 : decode cX7_mixStreet 27 = .ok (.iaload, 1) := by decide +kernel
theorem dX7_mixStreet_28 : decode cX7_mixStreet 28 = .ok (.i2l, 1) := by decide +kernel
theorem dX7_mixStreet_29 : decode cX7_mixStreet 29 = .ok (.invokestatic 321, 3) := by decide +kernel
theorem dX7_mixStreet_32 : decode cX7_mixStreet 32 = .ok (.lstore_n 3, 1) := by decide +kernel
theorem dX7_mixStreet_33 : decode cX7_mixStreet 33 = .ok (.lload_n 3, 1) := by decide +kernel
theorem dX7_mixStreet_34 : decode cX7_mixStreet 34 = .ok (.aload_n 0, 1) := by decide +kernel
theorem dX7_mixStreet_35 : decode cX7_mixStreet 35 = .ok (.getfield 10, 3) := by decide +kernel
theorem dX7_mixStreet_38 : decode cX7_mixStreet 38 = .ok (.getfield 330, 3) := by decide +kernel
theorem dX7_mixStreet_41 : decode cX7_mixStreet 41 = .ok (.iload 5, 2) := by decide +kernel
theorem dX7_mixStreet_43 : decode cX7_mixStreet 43 = .ok (.iaload, 1) := by decide +kernel
theorem dX7_mixStreet_44 : decode cX7_mixStreet 44 = .ok (.i2l, 1) := by decide +kernel
theorem dX7_mixStreet_45 : decode cX7_mixStreet 45 = .ok (.invokestatic 321, 3) := by decide +kernel
theorem dX7_mixStreet_48 : decode cX7_mixStreet 48 = .ok (.lstore_n 3, 1) := by decide +kernel
theorem dX7_mixStreet_49 : decode cX7_mixStreet 49 = .ok (.lload_n 3, 1) := by decide +kernel
theorem dX7_mixStreet_50 : decode cX7_mixStreet 50 = .ok (.aload_n 0, 1) := by decide +kernel
theorem dX7_mixStreet_51 : decode cX7_mixStreet 51 = .ok (.getfield 21, 3) := by decide +kernel
theorem dX7_mixStreet_54 : decode cX7_mixStreet 54 = .ok (.iload 5, 2) := by decide +kernel
theorem dX7_mixStreet_56 : decode cX7_mixStreet 56 = .ok (.invokevirtual 133, 3) := by decide +kernel
theorem dX7_mixStreet_59 : decode cX7_mixStreet 59 = .ok (.i2l, 1) := by decide +kernel
theorem dX7_mixStreet_60 : decode cX7_mixStreet 60 = .ok (.invokestatic 321, 3) := by decide +kernel
theorem dX7_mixStreet_63 : decode cX7_mixStreet 63 = .ok (.lstore_n 3, 1) := by decide +kernel
theorem dX7_mixStreet_64 : decode cX7_mixStreet 64 = .ok (.iinc 5 1, 3) := by decide +kernel
theorem dX7_mixStreet_67 : decode cX7_mixStreet 67 = .ok (.goto (-62), 3) := by decide +kernel
theorem dX7_mixStreet_70 : decode cX7_mixStreet 70 = .ok (.iconst 0, 1) := by decide +kernel
theorem dX7_mixStreet_71 : decode cX7_mixStreet 71 = .ok (.istore 5, 2) := by decide +kernel
theorem dX7_mixStreet_73 : decode cX7_mixStreet 73 = .ok (.iload 5, 2) := by decide +kernel
theorem dX7_mixStreet_75 : decode cX7_mixStreet 75 = .ok (.aload_n 0, 1) := by decide +kernel
theorem dX7_mixStreet_76 : decode cX7_mixStreet 76 = .ok (.getfield 10, 3) := by decide +kernel
theorem dX7_mixStreet_79 : decode cX7_mixStreet 79 = .ok (.getfield 175, 3) := by decide +kernel
theorem dX7_mixStreet_82 : decode cX7_mixStreet 82 = .ok (.if_icmp .ge 38, 3) := by decide +kernel
theorem dX7_mixStreet_85 : decode cX7_mixStreet 85 = .ok (.iconst 0, 1) := by decide +kernel
theorem dX7_mixStreet_86 : decode cX7_mixStreet 86 = .ok (.istore 6, 2) := by decide +kernel
theorem dX7_mixStreet_88 : decode cX7_mixStreet 88 = .ok (.iload 6, 2) := by decide +kernel
theorem dX7_mixStreet_90 : decode cX7_mixStreet 90 = .ok (.iconst 5, 1) := by decide +kernel
theorem dX7_mixStreet_91 : decode cX7_mixStreet 91 = .ok (.if_icmp .gt 23, 3) := by decide +kernel
theorem dX7_mixStreet_94 : decode cX7_mixStreet 94 = .ok (.lload_n 3, 1) := by decide +kernel
theorem dX7_mixStreet_95 : decode cX7_mixStreet 95 = .ok (.aload_n 0, 1) := by decide +kernel
theorem dX7_mixStreet_96 : decode cX7_mixStreet 96 = .ok (.iload 5, 2) := by decide +kernel
theorem dX7_mixStreet_98 : decode cX7_mixStreet 98 = .ok (.iload 6, 2) := by decide +kernel
theorem dX7_mixStreet_100 : decode cX7_mixStreet 100 = .ok (.invokevirtual 333, 3) := by decide +kernel
theorem dX7_mixStreet_103 : decode cX7_mixStreet 103 = .ok (.i2l, 1) := by decide +kernel
theorem dX7_mixStreet_104 : decode cX7_mixStreet 104 = .ok (.invokestatic 321, 3) := by decide +kernel
theorem dX7_mixStreet_107 : decode cX7_mixStreet 107 = .ok (.lstore_n 3, 1) := by decide +kernel
theorem dX7_mixStreet_108 : decode cX7_mixStreet 108 = .ok (.iinc 6 1, 3) := by decide +kernel
theorem dX7_mixStreet_111 : decode cX7_mixStreet 111 = .ok (.goto (-23), 3) := by decide +kernel
theorem dX7_mixStreet_114 : decode cX7_mixStreet 114 = .ok (.iinc 5 1, 3) := by decide +kernel
theorem dX7_mixStreet_117 : decode cX7_mixStreet 117 = .ok (.goto (-44), 3) := by decide +kernel
theorem dX7_mixStreet_120 : decode cX7_mixStreet 120 = .ok (.lload_n 3, 1) := by decide +kernel
theorem dX7_mixStreet_121 : decode cX7_mixStreet 121 = .ok (.lreturn, 1) := by decide +kernel
theorem dX7_mixSorts_0 : decode cX7_mixSorts 0 = .ok (.lload_n 1, 1) := by decide +kernel
theorem dX7_mixSorts_1 : decode cX7_mixSorts 1 = .ok (.lstore_n 3, 1) := by decide +kernel
theorem dX7_mixSorts_2 : decode cX7_mixSorts 2 = .ok (.iconst 0, 1) := by decide +kernel
theorem dX7_mixSorts_3 : decode cX7_mixSorts 3 = .ok (.istore 5, 2) := by decide +kernel
theorem dX7_mixSorts_5 : decode cX7_mixSorts 5 = .ok (.iload 5, 2) := by decide +kernel
theorem dX7_mixSorts_7 : decode cX7_mixSorts 7 = .ok (.aload_n 0, 1) := by decide +kernel
theorem dX7_mixSorts_8 : decode cX7_mixSorts 8 = .ok (.getfield 10, 3) := by decide +kernel
theorem dX7_mixSorts_11 : decode cX7_mixSorts 11 = .ok (.getfield 202, 3) := by decide +kernel
theorem dX7_mixSorts_14 : decode cX7_mixSorts 14 = .ok (.if_icmp .ge 136, 3) := by decide +kernel
theorem dX7_mixSorts_17 : decode cX7_mixSorts 17 = .ok (.lload_n 3, 1) := by decide +kernel
theorem dX7_mixSorts_18 : decode cX7_mixSorts 18 = .ok (.aload_n 0, 1) := by decide +kernel
theorem dX7_mixSorts_19 : decode cX7_mixSorts 19 = .ok (.getfield 10, 3) := by decide +kernel
theorem dX7_mixSorts_22 : decode cX7_mixSorts 22 = .ok (.getfield 336, 3) := by decide +kernel
theorem dX7_mixSorts_25 : decode cX7_mixSorts 25 = .ok (.iload 5, 2) := by decide +kernel
theorem dX7_mixSorts_27 : decode cX7_mixSorts 27 = .ok (.iaload, 1) := by decide +kernel
theorem dX7_mixSorts_28 : decode cX7_mixSorts 28 = .ok (.i2l, 1) := by decide +kernel
theorem dX7_mixSorts_29 : decode cX7_mixSorts 29 = .ok (.invokestatic 321, 3) := by decide +kernel
theorem dX7_mixSorts_32 : decode cX7_mixSorts 32 = .ok (.lstore_n 3, 1) := by decide +kernel
theorem dX7_mixSorts_33 : decode cX7_mixSorts 33 = .ok (.lload_n 3, 1) := by decide +kernel
theorem dX7_mixSorts_34 : decode cX7_mixSorts 34 = .ok (.aload_n 0, 1) := by decide +kernel
theorem dX7_mixSorts_35 : decode cX7_mixSorts 35 = .ok (.getfield 10, 3) := by decide +kernel
theorem dX7_mixSorts_38 : decode cX7_mixSorts 38 = .ok (.getfield 205, 3) := by decide +kernel
theorem dX7_mixSorts_41 : decode cX7_mixSorts 41 = .ok (.iload 5, 2) := by decide +kernel
theorem dX7_mixSorts_43 : decode cX7_mixSorts 43 = .ok (.iaload, 1) := by decide +kernel
theorem dX7_mixSorts_44 : decode cX7_mixSorts 44 = .ok (.i2l, 1) := by decide +kernel
theorem dX7_mixSorts_45 : decode cX7_mixSorts 45 = .ok (.invokestatic 321, 3) := by decide +kernel
theorem dX7_mixSorts_48 : decode cX7_mixSorts 48 = .ok (.lstore_n 3, 1) := by decide +kernel
theorem dX7_mixSorts_49 : decode cX7_mixSorts 49 = .ok (.lload_n 3, 1) := by decide +kernel
theorem dX7_mixSorts_50 : decode cX7_mixSorts 50 = .ok (.aload_n 0, 1) := by decide +kernel
theorem dX7_mixSorts_51 : decode cX7_mixSorts 51 = .ok (.getfield 10, 3) := by decide +kernel
theorem dX7_mixSorts_54 : decode cX7_mixSorts 54 = .ok (.getfield 339, 3) := by decide +kernel
theorem dX7_mixSorts_57 : decode cX7_mixSorts 57 = .ok (.iload 5, 2) := by decide +kernel
theorem dX7_mixSorts_59 : decode cX7_mixSorts 59 = .ok (.iaload, 1) := by decide +kernel
theorem dX7_mixSorts_60 : decode cX7_mixSorts 60 = .ok (.i2l, 1) := by decide +kernel
theorem dX7_mixSorts_61 : decode cX7_mixSorts 61 = .ok (.invokestatic 321, 3) := by decide +kernel
theorem dX7_mixSorts_64 : decode cX7_mixSorts 64 = .ok (.lstore_n 3, 1) := by decide +kernel
theorem dX7_mixSorts_65 : decode cX7_mixSorts 65 = .ok (.lload_n 3, 1) := by decide +kernel
theorem dX7_mixSorts_66 : decode cX7_mixSorts 66 = .ok (.aload_n 0, 1) := by decide +kernel
theorem dX7_mixSorts_67 : decode cX7_mixSorts 67 = .ok (.getfield 10, 3) := by decide +kernel
theorem dX7_mixSorts_70 : decode cX7_mixSorts 70 = .ok (.getfield 342, 3) := by decide +kernel
theorem dX7_mixSorts_73 : decode cX7_mixSorts 73 = .ok (.iload 5, 2) := by decide +kernel
theorem dX7_mixSorts_75 : decode cX7_mixSorts 75 = .ok (.iaload, 1) := by decide +kernel
theorem dX7_mixSorts_76 : decode cX7_mixSorts 76 = .ok (.i2l, 1) := by decide +kernel
theorem dX7_mixSorts_77 : decode cX7_mixSorts 77 = .ok (.invokestatic 321, 3) := by decide +kernel
theorem dX7_mixSorts_80 : decode cX7_mixSorts 80 = .ok (.lstore_n 3, 1) := by decide +kernel
theorem dX7_mixSorts_81 : decode cX7_mixSorts 81 = .ok (.lload_n 3, 1) := by decide +kernel
theorem dX7_mixSorts_82 : decode cX7_mixSorts 82 = .ok (.aload_n 0, 1) := by decide +kernel
theorem dX7_mixSorts_83 : decode cX7_mixSorts 83 = .ok (.getfield 10, 3) := by decide +kernel
theorem dX7_mixSorts_86 : decode cX7_mixSorts 86 = .ok (.getfield 345, 3) := by decide +kernel
theorem dX7_mixSorts_89 : decode cX7_mixSorts 89 = .ok (.iload 5, 2) := by decide +kernel
theorem dX7_mixSorts_91 : decode cX7_mixSorts 91 = .ok (.iaload, 1) := by decide +kernel
theorem dX7_mixSorts_92 : decode cX7_mixSorts 92 = .ok (.i2l, 1) := by decide +kernel
theorem dX7_mixSorts_93 : decode cX7_mixSorts 93 = .ok (.invokestatic 321, 3) := by decide +kernel
theorem dX7_mixSorts_96 : decode cX7_mixSorts 96 = .ok (.lstore_n 3, 1) := by decide +kernel
theorem dX7_mixSorts_97 : decode cX7_mixSorts 97 = .ok (.lload_n 3, 1) := by decide +kernel
theorem dX7_mixSorts_98 : decode cX7_mixSorts 98 = .ok (.aload_n 0, 1) := by decide +kernel
theorem dX7_mixSorts_99 : decode cX7_mixSorts 99 = .ok (.getfield 10, 3) := by decide +kernel
theorem dX7_mixSorts_102 : decode cX7_mixSorts 102 = .ok (.getfield 348, 3) := by decide +kernel
theorem dX7_mixSorts_105 : decode cX7_mixSorts 105 = .ok (.iload 5, 2) := by decide +kernel
theorem dX7_mixSorts_107 : decode cX7_mixSorts 107 = .ok (.iaload, 1) := by decide +kernel
theorem dX7_mixSorts_108 : decode cX7_mixSorts 108 = .ok (.i2l, 1) := by decide +kernel
theorem dX7_mixSorts_109 : decode cX7_mixSorts 109 = .ok (.invokestatic 321, 3) := by decide +kernel
theorem dX7_mixSorts_112 : decode cX7_mixSorts 112 = .ok (.lstore_n 3, 1) := by decide +kernel
theorem dX7_mixSorts_113 : decode cX7_mixSorts 113 = .ok (.lload_n 3, 1) := by decide +kernel
theorem dX7_mixSorts_114 : decode cX7_mixSorts 114 = .ok (.aload_n 0, 1) := by decide +kernel
theorem dX7_mixSorts_115 : decode cX7_mixSorts 115 = .ok (.getfield 21, 3) := by decide +kernel
theorem dX7_mixSorts_118 : decode cX7_mixSorts 118 = .ok (.iload 5, 2) := by decide +kernel
theorem dX7_mixSorts_120 : decode cX7_mixSorts 120 = .ok (.iconst (-1), 1) := by decide +kernel
theorem dX7_mixSorts_121 : decode cX7_mixSorts 121 = .ok (.invokevirtual 126, 3) := by decide +kernel
theorem dX7_mixSorts_124 : decode cX7_mixSorts 124 = .ok (.i2l, 1) := by decide +kernel
theorem dX7_mixSorts_125 : decode cX7_mixSorts 125 = .ok (.invokestatic 321, 3) := by decide +kernel
theorem dX7_mixSorts_128 : decode cX7_mixSorts 128 = .ok (.lstore_n 3, 1) := by decide +kernel
theorem dX7_mixSorts_129 : decode cX7_mixSorts 129 = .ok (.lload_n 3, 1) := by decide +kernel
theorem dX7_mixSorts_130 : decode cX7_mixSorts 130 = .ok (.aload_n 0, 1) := by decide +kernel
theorem dX7_mixSorts_131 : decode cX7_mixSorts 131 = .ok (.getfield 21, 3) := by decide +kernel
theorem dX7_mixSorts_134 : decode cX7_mixSorts 134 = .ok (.iload 5, 2) := by decide +kernel
theorem dX7_mixSorts_136 : decode cX7_mixSorts 136 = .ok (.invokevirtual 129, 3) := by decide +kernel
theorem dX7_mixSorts_139 : decode cX7_mixSorts 139 = .ok (.i2l, 1) := by decide +kernel
theorem dX7_mixSorts_140 : decode cX7_mixSorts 140 = .ok (.invokestatic 321, 3) := by decide +kernel
theorem dX7_mixSorts_143 : decode cX7_mixSorts 143 = .ok (.lstore_n 3, 1) := by decide +kernel
theorem dX7_mixSorts_144 : decode cX7_mixSorts 144 = .ok (.iinc 5 1, 3) := by decide +kernel
theorem dX7_mixSorts_147 : decode cX7_mixSorts 147 = .ok (.goto (-142), 3) := by decide +kernel
theorem dX7_mixSorts_150 : decode cX7_mixSorts 150 = .ok (.lload_n 3, 1) := by decide +kernel
theorem dX7_mixSorts_151 : decode cX7_mixSorts 151 = .ok (.lreturn, 1) := by decide +kernel
theorem dX7_mixTests_0 : decode cX7_mixTests 0 = .ok (.lload_n 1, 1) := by decide +kernel
theorem dX7_mixTests_1 : decode cX7_mixTests 1 = .ok (.lstore_n 3, 1) := by decide +kernel
theorem dX7_mixTests_2 : decode cX7_mixTests 2 = .ok (.iconst 0, 1) := by decide +kernel
theorem dX7_mixTests_3 : decode cX7_mixTests 3 = .ok (.istore 5, 2) := by decide +kernel
theorem dX7_mixTests_5 : decode cX7_mixTests 5 = .ok (.iload 5, 2) := by decide +kernel
theorem dX7_mixTests_7 : decode cX7_mixTests 7 = .ok (.aload_n 0, 1) := by decide +kernel
theorem dX7_mixTests_8 : decode cX7_mixTests 8 = .ok (.getfield 266, 3) := by decide +kernel
theorem dX7_mixTests_11 : decode cX7_mixTests 11 = .ok (.if_icmp .ge 77, 3) := by decide +kernel
theorem dX7_mixTests_14 : decode cX7_mixTests 14 = .ok (.iconst 0, 1) := by decide +kernel
theorem dX7_mixTests_15 : decode cX7_mixTests 15 = .ok (.istore 6, 2) := by decide +kernel
theorem dX7_mixTests_17 : decode cX7_mixTests 17 = .ok (.iload 6, 2) := by decide +kernel
theorem dX7_mixTests_19 : decode cX7_mixTests 19 = .ok (.aload_n 0, 1) := by decide +kernel
theorem dX7_mixTests_20 : decode cX7_mixTests 20 = .ok (.getfield 10, 3) := by decide +kernel
theorem dX7_mixTests_23 : decode cX7_mixTests 23 = .ok (.getfield 159, 3) := by decide +kernel
theorem dX7_mixTests_26 : decode cX7_mixTests 26 = .ok (.if_icmp .ge 56, 3) := by decide +kernel
theorem dX7_mixTests_29 : decode cX7_mixTests 29 = .ok (.iload 6, 2) := by decide +kernel
theorem dX7_mixTests_31 : decode cX7_mixTests 31 = .ok (.iconst 1, 1) := by decide +kernel
theorem dX7_mixTests_32 : decode cX7_mixTests 32 = .ok (.iadd, 1) := by decide +kernel
theorem dX7_mixTests_33 : decode cX7_mixTests 33 = .ok (.istore 7, 2) := by decide +kernel
theorem dX7_mixTests_35 : decode cX7_mixTests 35 = .ok (.iload 7, 2) := by decide +kernel
theorem dX7_mixTests_37 : decode cX7_mixTests 37 = .ok (.aload_n 0, 1) := by decide +kernel
theorem dX7_mixTests_38 : decode cX7_mixTests 38 = .ok (.getfield 10, 3) := by decide +kernel
theorem dX7_mixTests_41 : decode cX7_mixTests 41 = .ok (.getfield 159, 3) := by decide +kernel
theorem dX7_mixTests_44 : decode cX7_mixTests 44 = .ok (.if_icmp .ge 32, 3) := by decide +kernel
theorem dX7_mixTests_47 : decode cX7_mixTests 47 = .ok (.lload_n 3, 1) := by decide +kernel
theorem dX7_mixTests_48 : decode cX7_mixTests 48 = .ok (.aload_n 0, 1) := by decide +kernel
theorem dX7_mixTests_49 : decode cX7_mixTests 49 = .ok (.iload 5, 2) := by decide +kernel
theorem dX7_mixTests_51 : decode cX7_mixTests 51 = .ok (.iload 6, 2) := by decide +kernel
theorem dX7_mixTests_53 : decode cX7_mixTests 53 = .ok (.iload 7, 2) := by decide +kernel
theorem dX7_mixTests_55 : decode cX7_mixTests 55 = .ok (.invokevirtual 275, 3) := by decide +kernel
theorem dX7_mixTests_58 : decode cX7_mixTests 58 = .ok (.ifCond .eq 7, 3) := by decide +kernel
theorem dX7_mixTests_61 : decode cX7_mixTests 61 = .ok (.lconst 1, 1) := by decide +kernel
theorem dX7_mixTests_62 : decode cX7_mixTests 62 = .ok (.goto 4, 3) := by decide +kernel
theorem dX7_mixTests_65 : decode cX7_mixTests 65 = .ok (.lconst 0, 1) := by decide +kernel
theorem dX7_mixTests_66 : decode cX7_mixTests 66 = .ok (.invokestatic 321, 3) := by decide +kernel
theorem dX7_mixTests_69 : decode cX7_mixTests 69 = .ok (.lstore_n 3, 1) := by decide +kernel
theorem dX7_mixTests_70 : decode cX7_mixTests 70 = .ok (.iinc 7 1, 3) := by decide +kernel
theorem dX7_mixTests_73 : decode cX7_mixTests 73 = .ok (.goto (-38), 3) := by decide +kernel
theorem dX7_mixTests_76 : decode cX7_mixTests 76 = .ok (.iinc 6 1, 3) := by decide +kernel
theorem dX7_mixTests_79 : decode cX7_mixTests 79 = .ok (.goto (-62), 3) := by decide +kernel
theorem dX7_mixTests_82 : decode cX7_mixTests 82 = .ok (.iinc 5 1, 3) := by decide +kernel
theorem dX7_mixTests_85 : decode cX7_mixTests 85 = .ok (.goto (-80), 3) := by decide +kernel
theorem dX7_mixTests_88 : decode cX7_mixTests 88 = .ok (.lload_n 3, 1) := by decide +kernel
theorem dX7_mixTests_89 : decode cX7_mixTests 89 = .ok (.lreturn, 1) := by decide +kernel
theorem dX7_digest_0 : decode cX7_digest 0 = .ok (.aload_n 0, 1) := by decide +kernel
theorem dX7_digest_1 : decode cX7_digest 1 = .ok (.ldc2_w 305, 3) := by decide +kernel
theorem dX7_digest_4 : decode cX7_digest 4 = .ok (.invokevirtual 307, 3) := by decide +kernel
theorem dX7_digest_7 : decode cX7_digest 7 = .ok (.lstore_n 1, 1) := by decide +kernel
theorem dX7_digest_8 : decode cX7_digest 8 = .ok (.aload_n 0, 1) := by decide +kernel
theorem dX7_digest_9 : decode cX7_digest 9 = .ok (.lload_n 1, 1) := by decide +kernel
theorem dX7_digest_10 : decode cX7_digest 10 = .ok (.invokevirtual 311, 3) := by decide +kernel
theorem dX7_digest_13 : decode cX7_digest 13 = .ok (.lstore_n 1, 1) := by decide +kernel
theorem dX7_digest_14 : decode cX7_digest 14 = .ok (.aload_n 0, 1) := by decide +kernel
theorem dX7_digest_15 : decode cX7_digest 15 = .ok (.lload_n 1, 1) := by decide +kernel
theorem dX7_digest_16 : decode cX7_digest 16 = .ok (.invokevirtual 314, 3) := by decide +kernel
theorem dX7_digest_19 : decode cX7_digest 19 = .ok (.lstore_n 1, 1) := by decide +kernel
theorem dX7_digest_20 : decode cX7_digest 20 = .ok (.iconst 0, 1) := by decide +kernel
theorem dX7_digest_21 : decode cX7_digest 21 = .ok (.istore_n 3, 1) := by decide +kernel
theorem dX7_digest_22 : decode cX7_digest 22 = .ok (.iload_n 3, 1) := by decide +kernel
theorem dX7_digest_23 : decode cX7_digest 23 = .ok (.aload_n 0, 1) := by decide +kernel
theorem dX7_digest_24 : decode cX7_digest 24 = .ok (.getfield 50, 3) := by decide +kernel
theorem dX7_digest_27 : decode cX7_digest 27 = .ok (.getfield 249, 3) := by decide +kernel
theorem dX7_digest_30 : decode cX7_digest 30 = .ok (.if_icmp .ge 24, 3) := by decide +kernel
theorem dX7_digest_33 : decode cX7_digest 33 = .ok (.lload_n 1, 1) := by decide +kernel
theorem dX7_digest_34 : decode cX7_digest 34 = .ok (.aload_n 0, 1) := by decide +kernel
theorem dX7_digest_35 : decode cX7_digest 35 = .ok (.getfield 50, 3) := by decide +kernel
theorem dX7_digest_38 : decode cX7_digest 38 = .ok (.getfield 317, 3) := by decide +kernel
theorem dX7_digest_41 : decode cX7_digest 41 = .ok (.iload_n 3, 1) := by decide +kernel
theorem dX7_digest_42 : decode cX7_digest 42 = .ok (.caload, 1) := by decide +kernel
theorem dX7_digest_43 : decode cX7_digest 43 = .ok (.i2l, 1) := by decide +kernel
theorem dX7_digest_44 : decode cX7_digest 44 = .ok (.invokestatic 321, 3) := by decide +kernel
theorem dX7_digest_47 : decode cX7_digest 47 = .ok (.lstore_n 1, 1) := by decide +kernel
theorem dX7_digest_48 : decode cX7_digest 48 = .ok (.iinc 3 1, 3) := by decide +kernel
theorem dX7_digest_51 : decode cX7_digest 51 = .ok (.goto (-29), 3) := by decide +kernel
theorem dX7_digest_54 : decode cX7_digest 54 = .ok (.iconst 0, 1) := by decide +kernel
theorem dX7_digest_55 : decode cX7_digest 55 = .ok (.istore_n 3, 1) := by decide +kernel
theorem dX7_digest_56 : decode cX7_digest 56 = .ok (.iload_n 3, 1) := by decide +kernel
theorem dX7_digest_57 : decode cX7_digest 57 = .ok (.bipush 6, 2) := by decide +kernel
theorem dX7_digest_59 : decode cX7_digest 59 = .ok (.if_icmp .gt 20, 3) := by decide +kernel
theorem dX7_digest_62 : decode cX7_digest 62 = .ok (.lload_n 1, 1) := by decide +kernel
theorem dX7_digest_63 : decode cX7_digest 63 = .ok (.aload_n 0, 1) := by decide +kernel
theorem dX7_digest_64 : decode cX7_digest 64 = .ok (.iload_n 3, 1) := by decide +kernel
theorem dX7_digest_65 : decode cX7_digest 65 = .ok (.invokevirtual 325, 3) := by decide +kernel
theorem dX7_digest_68 : decode cX7_digest 68 = .ok (.i2l, 1) := by decide +kernel
theorem dX7_digest_69 : decode cX7_digest 69 = .ok (.invokestatic 321, 3) := by decide +kernel
theorem dX7_digest_72 : decode cX7_digest 72 = .ok (.lstore_n 1, 1) := by decide +kernel
theorem dX7_digest_73 : decode cX7_digest 73 = .ok (.iinc 3 1, 3) := by decide +kernel
theorem dX7_digest_76 : decode cX7_digest 76 = .ok (.goto (-20), 3) := by decide +kernel
theorem dX7_digest_79 : decode cX7_digest 79 = .ok (.lload_n 1, 1) := by decide +kernel
theorem dX7_digest_80 : decode cX7_digest 80 = .ok (.lreturn, 1) := by decide +kernel
theorem dX8_within_0 : decode cX8_within 0 = .ok (.iload_n 0, 1) := by decide +kernel
theorem dX8_within_1 : decode cX8_within 1 = .ok (.iload_n 1, 1) := by decide +kernel
theorem dX8_within_2 : decode cX8_within 2 = .ok (.if_icmp .lt 12, 3) := by decide +kernel
theorem dX8_within_5 : decode cX8_within 5 = .ok (.iload_n 0, 1) := by decide +kernel
theorem dX8_within_6 : decode cX8_within 6 = .ok (.iload_n 2, 1) := by decide +kernel
theorem dX8_within_7 : decode cX8_within 7 = .ok (.if_icmp .gt 7, 3) := by decide +kernel
theorem dX8_within_10 : decode cX8_within 10 = .ok (.iconst 1, 1) := by decide +kernel
theorem dX8_within_11 : decode cX8_within 11 = .ok (.goto 4, 3) := by decide +kernel
theorem dX8_within_14 : decode cX8_within 14 = .ok (.iconst 0, 1) := by decide +kernel
theorem dX8_within_15 : decode cX8_within 15 = .ok (.ireturn, 1) := by decide +kernel
theorem dX8_size_0 : decode cX8_size 0 = .ok (.iload_n 0, 1) := by decide +kernel
theorem dX8_size_1 : decode cX8_size 1 = .ok (.ifCond .ge 8, 3) := by decide +kernel
theorem dX8_size_4 : decode cX8_size 4 = .ok (.iload_n 0, 1) := by decide +kernel
theorem dX8_size_5 : decode cX8_size 5 = .ok (.ineg, 1) := by decide +kernel
theorem dX8_size_6 : decode cX8_size 6 = .ok (.goto 4, 3) := by decide +kernel
theorem dX8_size_9 : decode cX8_size 9 = .ok (.iload_n 0, 1) := by decide +kernel
theorem dX8_size_10 : decode cX8_size 10 = .ok (.ireturn, 1) := by decide +kernel
theorem dX8_isOwner_0 : decode cX8_isOwner 0 = .ok (.iload_n 1, 1) := by decide +kernel
theorem dX8_isOwner_1 : decode cX8_isOwner 1 = .ok (.iconst 0, 1) := by decide +kernel
theorem dX8_isOwner_2 : decode cX8_isOwner 2 = .ok (.aload_n 0, 1) := by decide +kernel
theorem dX8_isOwner_3 : decode cX8_isOwner 3 = .ok (.getfield 91, 3) := by decide +kernel
theorem dX8_isOwner_6 : decode cX8_isOwner 6 = .ok (.iconst 1, 1) := by decide +kernel
theorem dX8_isOwner_7 : decode cX8_isOwner 7 = .ok (.isub, 1) := by decide +kernel
theorem dX8_isOwner_8 : decode cX8_isOwner 8 = .ok (.invokestatic 94, 3) := by decide +kernel
theorem dX8_isOwner_11 : decode cX8_isOwner 11 = .ok (.ireturn, 1) := by decide +kernel
theorem dX8_isShop_0 : decode cX8_isShop 0 = .ok (.iload_n 1, 1) := by decide +kernel
theorem dX8_isShop_1 : decode cX8_isShop 1 = .ok (.iconst 0, 1) := by decide +kernel
theorem dX8_isShop_2 : decode cX8_isShop 2 = .ok (.aload_n 0, 1) := by decide +kernel
theorem dX8_isShop_3 : decode cX8_isShop 3 = .ok (.getfield 98, 3) := by decide +kernel
theorem dX8_isShop_6 : decode cX8_isShop 6 = .ok (.iconst 1, 1) := by decide +kernel
theorem dX8_isShop_7 : decode cX8_isShop 7 = .ok (.isub, 1) := by decide +kernel
theorem dX8_isShop_8 : decode cX8_isShop 8 = .ok (.invokestatic 94, 3) := by decide +kernel
theorem dX8_isShop_11 : decode cX8_isShop 11 = .ok (.ireturn, 1) := by decide +kernel
theorem dX8_isSort_0 : decode cX8_isSort 0 = .ok (.iload_n 1, 1) := by decide +kernel
theorem dX8_isSort_1 : decode cX8_isSort 1 = .ok (.iconst 0, 1) := by decide +kernel
theorem dX8_isSort_2 : decode cX8_isSort 2 = .ok (.aload_n 0, 1) := by decide +kernel
theorem dX8_isSort_3 : decode cX8_isSort 3 = .ok (.getfield 101, 3) := by decide +kernel
theorem dX8_isSort_6 : decode cX8_isSort 6 = .ok (.iconst 1, 1) := by decide +kernel
theorem dX8_isSort_7 : decode cX8_isSort 7 = .ok (.isub, 1) := by decide +kernel
theorem dX8_isSort_8 : decode cX8_isSort 8 = .ok (.invokestatic 94, 3) := by decide +kernel
theorem dX8_isSort_11 : decode cX8_isSort 11 = .ok (.ireturn, 1) := by decide +kernel
theorem dX8_owner_0 : decode cX8_owner 0 = .ok (.iload_n 1, 1) := by decide +kernel
theorem dX8_owner_1 : decode cX8_owner 1 = .ok (.iconst 0, 1) := by decide +kernel
theorem dX8_owner_2 : decode cX8_owner 2 = .ok (.iconst 4, 1) := by decide +kernel
theorem dX8_owner_3 : decode cX8_owner 3 = .ok (.invokestatic 94, 3) := by decide +kernel
theorem dX8_owner_6 : decode cX8_owner 6 = .ok (.ifCond .eq 13, 3) := by decide +kernel
theorem dX8_owner_9 : decode cX8_owner 9 = .ok (.iload_n 2, 1) := by decide +kernel
theorem dX8_owner_10 : decode cX8_owner 10 = .ok (.iconst 0, 1) := by decide +kernel
theorem dX8_owner_11 : decode cX8_owner 11 = .ok (.bipush 99, 2) := by decide +kernel
theorem dX8_owner_13 : decode cX8_owner 13 = .ok (.invokestatic 94, 3) := by decide +kernel
theorem dX8_owner_16 : decode cX8_owner 16 = .ok (.ifCond .ne 6, 3) := by decide +kernel
theorem dX8_owner_19 : decode cX8_owner 19 = .ok (.bipush (-102), 2) := by decide +kernel
theorem dX8_owner_21 : decode cX8_owner 21 = .ok (.ireturn, 1) := by decide +kernel
theorem dX8_owner_22 : decode cX8_owner 22 = .ok (.aload_n 0, 1) := by decide +kernel
theorem dX8_owner_23 : decode cX8_owner 23 = .ok (.getfield 91, 3) := by decide +kernel
theorem dX8_owner_26 : decode cX8_owner 26 = .ok (.bipush 6, 2) := by decide +kernel
theorem dX8_owner_28 : decode cX8_owner 28 = .ok (.if_icmp .ne 6, 3) := by decide +kernel
theorem dX8_owner_31 : decode cX8_owner 31 = .ok (.bipush (-104), 2) := by decide +kernel
theorem dX8_owner_33 : decode cX8_owner 33 = .ok (.ireturn, 1) := by decide +kernel
theorem dX8_owner_34 : decode cX8_owner 34 = .ok (.aload_n 0, 1) := by decide +kernel
theorem dX8_owner_35 : decode cX8_owner 35 = .ok (.getfield 7, 3) := by decide +kernel
theorem dX8_owner_38 : decode cX8_owner 38 = .ok (.aload_n 0, 1) := by decide +kernel
theorem dX8_owner_39 : decode cX8_owner 39 = .ok (.getfield 91, 3) := by decide +kernel
theorem dX8_owner_42 : decode cX8_owner 42 = .ok (.iload_n 1, 1) := by decide +kernel
theorem dX8_owner_43 : decode cX8_owner 43 = .ok (.iastore, 1) := by decide +kernel
theorem dX8_owner_44 : decode cX8_owner 44 = .ok (.aload_n 0, 1) := by decide +kernel
theorem dX8_owner_45 : decode cX8_owner 45 = .ok (.getfield 13, 3) := by decide +kernel
theorem dX8_owner_48 : decode cX8_owner 48 = .ok (.aload_n 0, 1) := by decide +kernel
theorem dX8_owner_49 : decode cX8_owner 49 = .ok (.getfield 91, 3) := by decide +kernel
theorem dX8_owner_52 : decode cX8_owner 52 = .ok (.iload_n 2, 1) := by decide +kernel
theorem dX8_owner_53 : decode cX8_owner 53 = .ok (.iastore, 1) := by decide +kernel
theorem dX8_owner_54 : decode cX8_owner 54 = .ok (.aload_n 0, 1) := by decide +kernel
theorem dX8_owner_55 : decode cX8_owner 55 = .ok (.getfield 16, 3) := by decide +kernel
theorem dX8_owner_58 : decode cX8_owner 58 = .ok (.aload_n 0, 1) := by decide +kernel
theorem dX8_owner_59 : decode cX8_owner 59 = .ok (.getfield 91, 3) := by decide +kernel
theorem dX8_owner_62 : decode cX8_owner 62 = .ok (.iconst 0, 1) := by decide +kernel
theorem dX8_owner_63 : decode cX8_owner 63 = .ok (.bastore, 1) := by decide +kernel
theorem dX8_owner_64 : decode cX8_owner 64 = .ok (.aload_n 0, 1) := by decide +kernel
theorem dX8_owner_65 : decode cX8_owner 65 = .ok (.dup, 1) := by decide +kernel
theorem dX8_owner_66 : decode cX8_owner 66 = .ok (.getfield 91, 3) := by decide +kernel
theorem dX8_owner_69 : decode cX8_owner 69 = .ok (.iconst 1, 1) := by decide +kernel
theorem dX8_owner_70 : decode cX8_owner 70 = .ok (.iadd, 1) := by decide +kernel
theorem dX8_owner_71 : decode cX8_owner 71 = .ok (.putfield 91, 3) := by decide +kernel
theorem dX8_owner_74 : decode cX8_owner 74 = .ok (.aload_n 0, 1) := by decide +kernel
theorem dX8_owner_75 : decode cX8_owner 75 = .ok (.getfield 91, 3) := by decide +kernel
theorem dX8_owner_78 : decode cX8_owner 78 = .ok (.iconst 1, 1) := by decide +kernel
theorem dX8_owner_79 : decode cX8_owner 79 = .ok (.isub, 1) := by decide +kernel
theorem dX8_owner_80 : decode cX8_owner 80 = .ok (.ireturn, 1) := by decide +kernel
theorem dX8_as_0 : decode cX8_as 0 = .ok (.aload_n 0, 1) := by decide +kernel
theorem dX8_as_1 : decode cX8_as 1 = .ok (.iload_n 1, 1) := by decide +kernel
theorem dX8_as_2 : decode cX8_as 2 = .ok (.invokevirtual 104, 3) := by decide +kernel
theorem dX8_as_5 : decode cX8_as 5 = .ok (.ifCond .ne 6, 3) := by decide +kernel
theorem dX8_as_8 : decode cX8_as 8 = .ok (.bipush (-101), 2) := by decide +kernel
theorem dX8_as_10 : decode cX8_as 10 = .ok (.ireturn, 1) := by decide +kernel
theorem dX8_as_11 : decode cX8_as 11 = .ok (.iload_n 2, 1) := by decide +kernel
theorem dX8_as_12 : decode cX8_as 12 = .ok (.iconst 0, 1) := by decide +kernel
theorem dX8_as_13 : decode cX8_as 13 = .ok (.iconst 4, 1) := by decide +kernel
theorem dX8_as_14 : decode cX8_as 14 = .ok (.invokestatic 94, 3) := by decide +kernel
theorem dX8_as_17 : decode cX8_as 17 = .ok (.ifCond .ne 6, 3) := by decide +kernel
theorem dX8_as_20 : decode cX8_as 20 = .ok (.bipush (-102), 2) := by decide +kernel
theorem dX8_as_22 : decode cX8_as 22 = .ok (.ireturn, 1) := by decide +kernel
theorem dX8_as_23 : decode cX8_as 23 = .ok (.iload_n 2, 1) := by decide +kernel
theorem dX8_as_24 : decode cX8_as 24 = .ok (.ifCond .eq 28, 3) := by decide +kernel
theorem dX8_as_27 : decode cX8_as 27 = .ok (.aload_n 0, 1) := by decide +kernel
theorem dX8_as_28 : decode cX8_as 28 = .ok (.getfield 7, 3) := by decide +kernel
theorem dX8_as_31 : decode cX8_as 31 = .ok (.iload_n 1, 1) := by decide +kernel
theorem dX8_as_32 : decode cX8_as 32 = .ok (.iaload, 1) := by decide +kernel
theorem dX8_as_33 : decode cX8_as 33 = .ok (.iload_n 2, 1) := by decide +kernel
theorem dX8_as_34 : decode cX8_as 34 = .ok (.if_icmp .eq 18, 3) := by decide +kernel
theorem dX8_as_37 : decode cX8_as 37 = .ok (.iload_n 2, 1) := by decide +kernel
theorem dX8_as_38 : decode cX8_as 38 = .ok (.iconst 1, 1) := by decide +kernel
theorem dX8_as_39 : decode cX8_as 39 = .ok (.if_icmp .ne 17, 3) := by decide +kernel
theorem dX8_as_42 : decode cX8_as 42 = .ok (.aload_n 0, 1) := by decide +kernel
theorem dX8_as_43 : decode cX8_as 43 = .ok (.getfield 7, 3) := by decide +kernel
theorem dX8_as_46 : decode cX8_as 46 = .ok (.iload_n 1, 1) := by decide +kernel
theorem dX8_as_47 : decode cX8_as 47 = .ok (.iaload, 1) := by decide +kernel
theorem dX8_as_48 : decode cX8_as 48 = .ok (.iconst 4, 1) := by decide +kernel
theorem dX8_as_49 : decode cX8_as 49 = .ok (.if_icmp .ne 7, 3) := by decide +kernel
theorem dX8_as_52 : decode cX8_as 52 = .ok (.iload_n 1, 1) := by decide +kernel
theorem dX8_as_53 : decode cX8_as 53 = .ok (.goto 4, 3) := by decide +kernel
theorem dX8_as_56 : decode cX8_as 56 = .ok (.iconst (-1), 1) := by decide +kernel
theorem dX8_as_57 : decode cX8_as 57 = .ok (.ireturn, 1) := by decide +kernel
theorem dX8_shopsOf_0 : decode cX8_shopsOf 0 = .ok (.iconst 0, 1) := by decide +kernel
theorem dX8_shopsOf_1 : decode cX8_shopsOf 1 = .ok (.istore_n 2, 1) := by decide +kernel
theorem dX8_shopsOf_2 : decode cX8_shopsOf 2 = .ok (.iconst 0, 1) := by decide +kernel
theorem dX8_shopsOf_3 : decode cX8_shopsOf 3 = .ok (.istore_n 3, 1) := by decide +kernel
theorem dX8_shopsOf_4 : decode cX8_shopsOf 4 = .ok (.iload_n 3, 1) := by decide +kernel
theorem dX8_shopsOf_5 : decode cX8_shopsOf 5 = .ok (.aload_n 0, 1) := by decide +kernel
theorem dX8_shopsOf_6 : decode cX8_shopsOf 6 = .ok (.getfield 98, 3) := by decide +kernel
theorem dX8_shopsOf_9 : decode cX8_shopsOf 9 = .ok (.if_icmp .ge 27, 3) := by decide +kernel
theorem dX8_shopsOf_12 : decode cX8_shopsOf 12 = .ok (.iload_n 2, 1) := by decide +kernel
theorem dX8_shopsOf_13 : decode cX8_shopsOf 13 = .ok (.aload_n 0, 1) := by decide +kernel
theorem dX8_shopsOf_14 : decode cX8_shopsOf 14 = .ok (.getfield 20, 3) := by decide +kernel
theorem dX8_shopsOf_17 : decode cX8_shopsOf 17 = .ok (.iload_n 3, 1) := by decide +kernel
theorem dX8_shopsOf_18 : decode cX8_shopsOf 18 = .ok (.iaload, 1) := by decide +kernel
theorem dX8_shopsOf_19 : decode cX8_shopsOf 19 = .ok (.iload_n 1, 1) := by decide +kernel
theorem dX8_shopsOf_20 : decode cX8_shopsOf 20 = .ok (.if_icmp .ne 7, 3) := by decide +kernel
theorem dX8_shopsOf_23 : decode cX8_shopsOf 23 = .ok (.iconst 1, 1) := by decide +kernel
theorem dX8_shopsOf_24 : decode cX8_shopsOf 24 = .ok (.goto 4, 3) := by decide +kernel
theorem dX8_shopsOf_27 : decode cX8_shopsOf 27 = .ok (.iconst 0, 1) := by decide +kernel
theorem dX8_shopsOf_28 : decode cX8_shopsOf 28 = .ok (.iadd, 1) := by decide +kernel
theorem dX8_shopsOf_29 : decode cX8_shopsOf 29 = .ok (.istore_n 2, 1) := by decide +kernel
theorem dX8_shopsOf_30 : decode cX8_shopsOf 30 = .ok (.iinc 3 1, 3) := by decide +kernel
theorem dX8_shopsOf_33 : decode cX8_shopsOf 33 = .ok (.goto (-29), 3) := by decide +kernel
theorem dX8_shopsOf_36 : decode cX8_shopsOf 36 = .ok (.iload_n 2, 1) := by decide +kernel
theorem dX8_shopsOf_37 : decode cX8_shopsOf 37 = .ok (.ireturn, 1) := by decide +kernel
theorem dX8_shop_0 : decode cX8_shop 0 = .ok (.aload_n 0, 1) := by decide +kernel
theorem dX8_shop_1 : decode cX8_shop 1 = .ok (.iload_n 1, 1) := by decide +kernel
theorem dX8_shop_2 : decode cX8_shop 2 = .ok (.invokevirtual 104, 3) := by decide +kernel
theorem dX8_shop_5 : decode cX8_shop 5 = .ok (.ifCond .ne 6, 3) := by decide +kernel
theorem dX8_shop_8 : decode cX8_shop 8 = .ok (.bipush (-101), 2) := by decide +kernel
theorem dX8_shop_10 : decode cX8_shop 10 = .ok (.ireturn, 1) := by decide +kernel
theorem dX8_shop_11 : decode cX8_shop 11 = .ok (.iload_n 2, 1) := by decide +kernel
theorem dX8_shop_12 : decode cX8_shop 12 = .ok (.iconst 0, 1) := by decide +kernel
theorem dX8_shop_13 : decode cX8_shop 13 = .ok (.bipush 9, 2) := by decide +kernel
theorem dX8_shop_15 : decode cX8_shop 15 = .ok (.invokestatic 94, 3) := by decide +kernel
theorem dX8_shop_18 : decode cX8_shop 18 = .ok (.ifCond .eq 24, 3) := by decide +kernel
theorem dX8_shop_21 : decode cX8_shop 21 = .ok (.iload_n 3, 1) := by decide +kernel
theorem dX8_shop_22 : decode cX8_shop 22 = .ok (.iconst 0, 1) := by decide +kernel
theorem dX8_shop_23 : decode cX8_shop 23 = .ok (.bipush 9, 2) := by decide +kernel
theorem dX8_shop_25 : decode cX8_shop 25 = .ok (.invokestatic 94, 3) := by decide +kernel
theorem dX8_shop_28 : decode cX8_shop 28 = .ok (.ifCond .eq 14, 3) := by decide +kernel
theorem dX8_shop_31 : decode cX8_shop 31 = .ok (.iload 4, 2) := by decide +kernel
theorem dX8_shop_33 : decode cX8_shop 33 = .ok (.iconst 0, 1) := by decide +kernel
theorem dX8_shop_34 : decode cX8_shop 34 = .ok (.bipush 9, 2) := by decide +kernel
theorem dX8_shop_36 : decode cX8_shop 36 = .ok (.invokestatic 94, 3) := by decide +kernel
theorem dX8_shop_39 : decode cX8_shop 39 = .ok (.ifCond .ne 6, 3) := by decide +kernel
theorem dX8_shop_42 : decode cX8_shop 42 = .ok (.bipush (-102), 2) := by decide +kernel
theorem dX8_shop_44 : decode cX8_shop 44 = .ok (.ireturn, 1) := by decide +kernel
theorem dX8_shop_45 : decode cX8_shop 45 = .ok (.aload_n 0, 1) := by decide +kernel
theorem dX8_shop_46 : decode cX8_shop 46 = .ok (.getfield 98, 3) := by decide +kernel
theorem dX8_shop_49 : decode cX8_shop 49 = .ok (.bipush 6, 2) := by decide +kernel
theorem dX8_shop_51 : decode cX8_shop 51 = .ok (.if_icmp .eq 12, 3) := by decide +kernel
theorem dX8_shop_54 : decode cX8_shop 54 = .ok (.aload_n 0, 1) := by decide +kernel
theorem dX8_shop_55 : decode cX8_shop 55 = .ok (.iload_n 1, 1) := by decide +kernel
theorem dX8_shop_56 : decode cX8_shop 56 = .ok (.invokevirtual 108, 3) := by decide +kernel
theorem dX8_shop_59 : decode cX8_shop 59 = .ok (.iconst 3, 1) := by decide +kernel
theorem dX8_shop_60 : decode cX8_shop 60 = .ok (.if_icmp .ne 6, 3) := by decide +kernel
theorem dX8_shop_63 : decode cX8_shop 63 = .ok (.bipush (-104), 2) := by decide +kernel
theorem dX8_shop_65 : decode cX8_shop 65 = .ok (.ireturn, 1) := by decide +kernel
theorem dX8_shop_66 : decode cX8_shop 66 = .ok (.aload_n 0, 1) := by decide +kernel
theorem dX8_shop_67 : decode cX8_shop 67 = .ok (.getfield 20, 3) := by decide +kernel
theorem dX8_shop_70 : decode cX8_shop 70 = .ok (.aload_n 0, 1) := by decide +kernel
theorem dX8_shop_71 : decode cX8_shop 71 = .ok (.getfield 98, 3) := by decide +kernel
theorem dX8_shop_74 : decode cX8_shop 74 = .ok (.iload_n 1, 1) := by decide +kernel
theorem dX8_shop_75 : decode cX8_shop 75 = .ok (.iastore, 1) := by decide +kernel
theorem dX8_shop_76 : decode cX8_shop 76 = .ok (.aload_n 0, 1) := by decide +kernel
theorem dX8_shop_77 : decode cX8_shop 77 = .ok (.getfield 23, 3) := by decide +kernel
theorem dX8_shop_80 : decode cX8_shop 80 = .ok (.aload_n 0, 1) := by decide +kernel
theorem dX8_shop_81 : decode cX8_shop 81 = .ok (.getfield 98, 3) := by decide +kernel
theorem dX8_shop_84 : decode cX8_shop 84 = .ok (.iload_n 2, 1) := by decide +kernel
theorem dX8_shop_85 : decode cX8_shop 85 = .ok (.iastore, 1) := by decide +kernel
theorem dX8_shop_86 : decode cX8_shop 86 = .ok (.aload_n 0, 1) := by decide +kernel
theorem dX8_shop_87 : decode cX8_shop 87 = .ok (.getfield 26, 3) := by decide +kernel
theorem dX8_shop_90 : decode cX8_shop 90 = .ok (.aload_n 0, 1) := by decide +kernel
theorem dX8_shop_91 : decode cX8_shop 91 = .ok (.getfield 98, 3) := by decide +kernel
theorem dX8_shop_94 : decode cX8_shop 94 = .ok (.iload_n 3, 1) := by decide +kernel
theorem dX8_shop_95 : decode cX8_shop 95 = .ok (.iastore, 1) := by decide +kernel
theorem dX8_shop_96 : decode cX8_shop 96 = .ok (.aload_n 0, 1) := by decide +kernel
theorem dX8_shop_97 : decode cX8_shop 97 = .ok (.getfield 29, 3) := by decide +kernel
theorem dX8_shop_100 : decode cX8_shop 100 = .ok (.aload_n 0, 1) := by decide +kernel
theorem dX8_shop_101 : decode cX8_shop 101 = .ok (.getfield 98, 3) := by decide +kernel
theorem dX8_shop_104 : decode cX8_shop 104 = .ok (.iload 4, 2) := by decide +kernel
theorem dX8_shop_106 : decode cX8_shop 106 = .ok (.iastore, 1) := by decide +kernel
theorem dX8_shop_107 : decode cX8_shop 107 = .ok (.aload_n 0, 1) := by decide +kernel
theorem dX8_shop_108 : decode cX8_shop 108 = .ok (.dup, 1) := by decide +kernel
theorem dX8_shop_109 : decode cX8_shop 109 = .ok (.getfield 98, 3) := by decide +kernel
theorem dX8_shop_112 : decode cX8_shop 112 = .ok (.iconst 1, 1) := by decide +kernel
theorem dX8_shop_113 : decode cX8_shop 113 = .ok (.iadd, 1) := by decide +kernel
theorem dX8_shop_114 : decode cX8_shop 114 = .ok (.putfield 98, 3) := by decide +kernel
theorem dX8_shop_117 : decode cX8_shop 117 = .ok (.aload_n 0, 1) := by decide +kernel
theorem dX8_shop_118 : decode cX8_shop 118 = .ok (.getfield 98, 3) := by decide +kernel
theorem dX8_shop_121 : decode cX8_shop 121 = .ok (.iconst 1, 1) := by decide +kernel
theorem dX8_shop_122 : decode cX8_shop 122 = .ok (.isub, 1) := by decide +kernel
theorem dX8_shop_123 : decode cX8_shop 123 = .ok (.ireturn, 1) := by decide +kernel
theorem dX8_isOpen_0 : decode cX8_isOpen 0 = .ok (.iload_n 1, 1) := by decide +kernel
theorem dX8_isOpen_1 : decode cX8_isOpen 1 = .ok (.aload_n 0, 1) := by decide +kernel
theorem dX8_isOpen_2 : decode cX8_isOpen 2 = .ok (.getfield 54, 3) := by decide +kernel
theorem dX8_isOpen_5 : decode cX8_isOpen 5 = .ok (.if_icmp .eq 36, 3) := by decide +kernel
theorem dX8_isOpen_8 : decode cX8_isOpen 8 = .ok (.aload_n 0, 1) := by decide +kernel
theorem dX8_isOpen_9 : decode cX8_isOpen 9 = .ok (.getfield 7, 3) := by decide +kernel
theorem dX8_isOpen_12 : decode cX8_isOpen 12 = .ok (.aload_n 0, 1) := by decide +kernel
theorem dX8_isOpen_13 : decode cX8_isOpen 13 = .ok (.getfield 20, 3) := by decide +kernel
theorem dX8_isOpen_16 : decode cX8_isOpen 16 = .ok (.iload_n 1, 1) := by decide +kernel
theorem dX8_isOpen_17 : decode cX8_isOpen 17 = .ok (.iaload, 1) := by decide +kernel
theorem dX8_isOpen_18 : decode cX8_isOpen 18 = .ok (.iaload, 1) := by decide +kernel
theorem dX8_isOpen_19 : decode cX8_isOpen 19 = .ok (.iconst 4, 1) := by decide +kernel
theorem dX8_isOpen_20 : decode cX8_isOpen 20 = .ok (.if_icmp .ne 17, 3) := by decide +kernel
theorem dX8_isOpen_23 : decode cX8_isOpen 23 = .ok (.aload_n 0, 1) := by decide +kernel
theorem dX8_isOpen_24 : decode cX8_isOpen 24 = .ok (.getfield 16, 3) := by decide +kernel
theorem dX8_isOpen_27 : decode cX8_isOpen 27 = .ok (.aload_n 0, 1) := by decide +kernel
theorem dX8_isOpen_28 : decode cX8_isOpen 28 = .ok (.getfield 20, 3) := by decide +kernel
theorem dX8_isOpen_31 : decode cX8_isOpen 31 = .ok (.iload_n 1, 1) := by decide +kernel
theorem dX8_isOpen_32 : decode cX8_isOpen 32 = .ok (.iaload, 1) := by decide +kernel
theorem dX8_isOpen_33 : decode cX8_isOpen 33 = .ok (.baload, 1) := by decide +kernel
theorem dX8_isOpen_34 : decode cX8_isOpen 34 = .ok (.ifCond .eq 7, 3) := by decide +kernel
theorem dX8_isOpen_37 : decode cX8_isOpen 37 = .ok (.iconst 1, 1) := by decide +kernel
theorem dX8_isOpen_38 : decode cX8_isOpen 38 = .ok (.goto 4, 3) := by decide +kernel
theorem dX8_isOpen_41 : decode cX8_isOpen 41 = .ok (.iconst 0, 1) := by decide +kernel
theorem dX8_isOpen_42 : decode cX8_isOpen 42 = .ok (.ireturn, 1) := by decide +kernel
theorem dX8_told_0 : decode cX8_told 0 = .ok (.aload_n 0, 1) := by decide +kernel
theorem dX8_told_1 : decode cX8_told 1 = .ok (.getfield 32, 3) := by decide +kernel
theorem dX8_told_4 : decode cX8_told 4 = .ok (.bipush 6, 2) := by decide +kernel
theorem dX8_told_6 : decode cX8_told 6 = .ok (.iload_n 1, 1) := by decide +kernel
theorem dX8_told_7 : decode cX8_told 7 = .ok (.imul, 1) := by decide +kernel
theorem dX8_told_8 : decode cX8_told 8 = .ok (.iload_n 2, 1) := by decide +kernel
theorem dX8_told_9 : decode cX8_told 9 = .ok (.iadd, 1) := by decide +kernel
theorem dX8_told_10 : decode cX8_told 10 = .ok (.iaload, 1) := by decide +kernel
theorem dX8_told_11 : decode cX8_told 11 = .ok (.ireturn, 1) := by decide +kernel
theorem dX8_isTo_0 : decode cX8_isTo 0 = .ok (.aload_n 0, 1) := by decide +kernel
theorem dX8_isTo_1 : decode cX8_isTo 1 = .ok (.iload_n 1, 1) := by decide +kernel
theorem dX8_isTo_2 : decode cX8_isTo 2 = .ok (.iconst 2, 1) := by decide +kernel
theorem dX8_isTo_3 : decode cX8_isTo 3 = .ok (.invokevirtual 112, 3) := by decide +kernel
theorem dX8_isTo_6 : decode cX8_isTo 6 = .ok (.aload_n 0, 1) := by decide +kernel
theorem dX8_isTo_7 : decode cX8_isTo 7 = .ok (.getfield 23, 3) := by decide +kernel
theorem dX8_isTo_10 : decode cX8_isTo 10 = .ok (.iload_n 2, 1) := by decide +kernel
theorem dX8_isTo_11 : decode cX8_isTo 11 = .ok (.iaload, 1) := by decide +kernel
theorem dX8_isTo_12 : decode cX8_isTo 12 = .ok (.aload_n 0, 1) := by decide +kernel
theorem dX8_isTo_13 : decode cX8_isTo 13 = .ok (.iload_n 1, 1) := by decide +kernel
theorem dX8_isTo_14 : decode cX8_isTo 14 = .ok (.iconst 0, 1) := by decide +kernel
theorem dX8_isTo_15 : decode cX8_isTo 15 = .ok (.invokevirtual 112, 3) := by decide +kernel
theorem dX8_isTo_18 : decode cX8_isTo 18 = .ok (.isub, 1) := by decide +kernel
theorem dX8_isTo_19 : decode cX8_isTo 19 = .ok (.invokestatic 116, 3) := by decide +kernel
theorem dX8_isTo_22 : decode cX8_isTo 22 = .ok (.imul, 1) := by decide +kernel
theorem dX8_isTo_23 : decode cX8_isTo 23 = .ok (.istore_n 3, 1) := by decide +kernel
theorem dX8_isTo_24 : decode cX8_isTo 24 = .ok (.aload_n 0, 1) := by decide +kernel
theorem dX8_isTo_25 : decode cX8_isTo 25 = .ok (.getfield 29, 3) := by decide +kernel
theorem dX8_isTo_28 : decode cX8_isTo 28 = .ok (.iload_n 2, 1) := by decide +kernel
theorem dX8_isTo_29 : decode cX8_isTo 29 = .ok (.iaload, 1) := by decide +kernel
theorem dX8_isTo_30 : decode cX8_isTo 30 = .ok (.iload_n 3, 1) := by decide +kernel
theorem dX8_isTo_31 : decode cX8_isTo 31 = .ok (.iadd, 1) := by decide +kernel
theorem dX8_isTo_32 : decode cX8_isTo 32 = .ok (.aload_n 0, 1) := by decide +kernel
theorem dX8_isTo_33 : decode cX8_isTo 33 = .ok (.iload_n 1, 1) := by decide +kernel
theorem dX8_isTo_34 : decode cX8_isTo 34 = .ok (.iconst 4, 1) := by decide +kernel
theorem dX8_isTo_35 : decode cX8_isTo 35 = .ok (.invokevirtual 112, 3) := by decide +kernel
theorem dX8_isTo_38 : decode cX8_isTo 38 = .ok (.iload_n 2, 1) := by decide +kernel
theorem dX8_isTo_39 : decode cX8_isTo 39 = .ok (.if_icmp .ne 12, 3) := by decide +kernel
theorem dX8_isTo_42 : decode cX8_isTo 42 = .ok (.aload_n 0, 1) := by decide +kernel
theorem dX8_isTo_43 : decode cX8_isTo 43 = .ok (.iload_n 1, 1) := by decide +kernel
theorem dX8_isTo_44 : decode cX8_isTo 44 = .ok (.iconst 5, 1) := by decide +kernel
theorem dX8_isTo_45 : decode cX8_isTo 45 = .ok (.invokevirtual 112, 3) := by decide +kernel
theorem dX8_isTo_48 : decode cX8_isTo 48 = .ok (.goto 4, 3) := by decide +kernel
theorem dX8_isTo_51 : decode cX8_isTo 51 = .ok (.iconst 0, 1) := by decide +kernel
theorem dX8_isTo_52 : decode cX8_isTo 52 = .ok (.isub, 1) := by decide +kernel
theorem dX8_isTo_53 : decode cX8_isTo 53 = .ok (.ireturn, 1) := by decide +kernel
theorem dX8_goesTo_0 : decode cX8_goesTo 0 = .ok (.iconst (-1), 1) := by decide +kernel
theorem dX8_goesTo_1 : decode cX8_goesTo 1 = .ok (.istore_n 2, 1) := by decide +kernel
theorem dX8_goesTo_2 : decode cX8_goesTo 2 = .ok (.iconst 0, 1) := by decide +kernel
theorem dX8_goesTo_3 : decode cX8_goesTo 3 = .ok (.istore_n 3, 1) := by decide +kernel
theorem dX8_goesTo_4 : decode cX8_goesTo 4 = .ok (.iload_n 3, 1) := by decide +kernel
theorem dX8_goesTo_5 : decode cX8_goesTo 5 = .ok (.aload_n 0, 1) := by decide +kernel
theorem dX8_goesTo_6 : decode cX8_goesTo 6 = .ok (.getfield 98, 3) := by decide +kernel
theorem dX8_goesTo_9 : decode cX8_goesTo 9 = .ok (.if_icmp .ge 43, 3) := by decide +kernel
theorem dX8_goesTo_12 : decode cX8_goesTo 12 = .ok (.aload_n 0, 1) := by decide +kernel
theorem dX8_goesTo_13 : decode cX8_goesTo 13 = .ok (.iload_n 3, 1) := by decide +kernel
theorem dX8_goesTo_14 : decode cX8_goesTo 14 = .ok (.invokevirtual 119, 3) := by decide +kernel
theorem dX8_goesTo_17 : decode cX8_goesTo 17 = .ok (.ifCond .eq 27, 3) := by decide +kernel
theorem dX8_goesTo_20 : decode cX8_goesTo 20 = .ok (.iload_n 2, 1) := by decide +kernel
theorem dX8_goesTo_21 : decode cX8_goesTo 21 = .ok (.iconst (-1), 1) := by decide +kernel
theorem dX8_goesTo_22 : decode cX8_goesTo 22 = .ok (.if_icmp .eq 18, 3) := by decide +kernel
theorem dX8_goesTo_25 : decode cX8_goesTo 25 = .ok (.aload_n 0, 1) := by decide +kernel
theorem dX8_goesTo_26 : decode cX8_goesTo 26 = .ok (.iload_n 1, 1) := by decide +kernel
theorem dX8_goesTo_27 : decode cX8_goesTo 27 = .ok (.iload_n 3, 1) := by decide +kernel
theorem dX8_goesTo_28 : decode cX8_goesTo 28 = .ok (.invokevirtual 122, 3) := by decide +kernel
theorem dX8_goesTo_31 : decode cX8_goesTo 31 = .ok (.aload_n 0, 1) := by decide +kernel
theorem dX8_goesTo_32 : decode cX8_goesTo 32 = .ok (.iload_n 1, 1) := by decide +kernel
theorem dX8_goesTo_33 : decode cX8_goesTo 33 = .ok (.iload_n 2, 1) := by decide +kernel
theorem dX8_goesTo_34 : decode cX8_goesTo 34 = .ok (.invokevirtual 122, 3) := by decide +kernel
theorem dX8_goesTo_37 : decode cX8_goesTo 37 = .ok (.if_icmp .ge 7, 3) := by decide +kernel
theorem dX8_goesTo_40 : decode cX8_goesTo 40 = .ok (.iload_n 3, 1) := by decide +kernel
theorem dX8_goesTo_41 : decode cX8_goesTo 41 = .ok (.goto 4, 3) := by decide +kernel
theorem dX8_goesTo_44 : decode cX8_goesTo 44 = .ok (.iload_n 2, 1) := by decide +kernel
theorem dX8_goesTo_45 : decode cX8_goesTo 45 = .ok (.istore_n 2, 1) := by decide +kernel
theorem dX8_goesTo_46 : decode cX8_goesTo 46 = .ok (.iinc 3 1, 3) := by decide +kernel
theorem dX8_goesTo_49 : decode cX8_goesTo 49 = .ok (.goto (-45), 3) := by decide +kernel
theorem dX8_goesTo_52 : decode cX8_goesTo 52 = .ok (.iload_n 2, 1) := by decide +kernel
theorem dX8_goesTo_53 : decode cX8_goesTo 53 = .ok (.iconst (-1), 1) := by decide +kernel
theorem dX8_goesTo_54 : decode cX8_goesTo 54 = .ok (.if_icmp .eq 18, 3) := by decide +kernel
theorem dX8_goesTo_57 : decode cX8_goesTo 57 = .ok (.aload_n 0, 1) := by decide +kernel
theorem dX8_goesTo_58 : decode cX8_goesTo 58 = .ok (.iload_n 1, 1) := by decide +kernel
theorem dX8_goesTo_59 : decode cX8_goesTo 59 = .ok (.iload_n 2, 1) := by decide +kernel
theorem dX8_goesTo_60 : decode cX8_goesTo 60 = .ok (.invokevirtual 122, 3) := by decide +kernel
theorem dX8_goesTo_63 : decode cX8_goesTo 63 = .ok (.aload_n 0, 1) := by decide +kernel
theorem dX8_goesTo_64 : decode cX8_goesTo 64 = .ok (.iload_n 1, 1) := by decide +kernel
theorem dX8_goesTo_65 : decode cX8_goesTo 65 = .ok (.iconst 3, 1) := by decide +kernel
theorem dX8_goesTo_66 : decode cX8_goesTo 66 = .ok (.invokevirtual 112, 3) := by decide +kernel
theorem dX8_goesTo_69 : decode cX8_goesTo 69 = .ok (.if_icmp .le 7, 3) := by decide +kernel
theorem dX8_goesTo_72 : decode cX8_goesTo 72 = .ok (.iconst (-1), 1) := by decide +kernel
theorem dX8_goesTo_73 : decode cX8_goesTo 73 = .ok (.goto 4, 3) := by decide +kernel
theorem dX8_goesTo_76 : decode cX8_goesTo 76 = .ok (.iload_n 2, 1) := by decide +kernel
theorem dX8_goesTo_77 : decode cX8_goesTo 77 = .ok (.ireturn, 1) := by decide +kernel
theorem dX8_spareOf_0 : decode cX8_spareOf 0 = .ok (.aload_n 0, 1) := by decide +kernel
theorem dX8_spareOf_1 : decode cX8_spareOf 1 = .ok (.iload_n 1, 1) := by decide +kernel
theorem dX8_spareOf_2 : decode cX8_spareOf 2 = .ok (.invokevirtual 125, 3) := by decide +kernel
theorem dX8_spareOf_5 : decode cX8_spareOf 5 = .ok (.istore_n 2, 1) := by decide +kernel
theorem dX8_spareOf_6 : decode cX8_spareOf 6 = .ok (.iload_n 2, 1) := by decide +kernel
theorem dX8_spareOf_7 : decode cX8_spareOf 7 = .ok (.iconst (-1), 1) := by decide +kernel
theorem dX8_spareOf_8 : decode cX8_spareOf 8 = .ok (.if_icmp .ne 7, 3) := by decide +kernel
theorem dX8_spareOf_11 : decode cX8_spareOf 11 = .ok (.iconst 0, 1) := by decide +kernel
theorem dX8_spareOf_12 : decode cX8_spareOf 12 = .ok (.goto 16, 3) := by decide +kernel
theorem dX8_spareOf_15 : decode cX8_spareOf 15 = .ok (.aload_n 0, 1) := by decide +kernel
theorem dX8_spareOf_16 : decode cX8_spareOf 16 = .ok (.iload_n 1, 1) := by decide +kernel
theorem dX8_spareOf_17 : decode cX8_spareOf 17 = .ok (.iconst 3, 1) := by decide +kernel
theorem dX8_spareOf_18 : decode cX8_spareOf 18 = .ok (.invokevirtual 112, 3) := by decide +kernel
theorem dX8_spareOf_21 : decode cX8_spareOf 21 = .ok (.aload_n 0, 1) := by decide +kernel
theorem dX8_spareOf_22 : decode cX8_spareOf 22 = .ok (.iload_n 1, 1) := by decide +kernel
theorem dX8_spareOf_23 : decode cX8_spareOf 23 = .ok (.iload_n 2, 1) := by decide +kernel
theorem dX8_spareOf_24 : decode cX8_spareOf 24 = .ok (.invokevirtual 122, 3) := by decide +kernel
theorem dX8_spareOf_27 : decode cX8_spareOf 27 = .ok (.isub, 1) := by decide +kernel
theorem dX8_spareOf_28 : decode cX8_spareOf 28 = .ok (.ireturn, 1) := by decide +kernel
theorem dX8_laySold_0 : decode cX8_laySold 0 = .ok (.iconst 0, 1) := by decide +kernel
theorem dX8_laySold_1 : decode cX8_laySold 1 = .ok (.istore_n 1, 1) := by decide +kernel
theorem dX8_laySold_2 : decode cX8_laySold 2 = .ok (.iload_n 1, 1) := by decide +kernel
theorem dX8_laySold_3 : decode cX8_laySold 3 = .ok (.aload_n 0, 1) := by decide +kernel
theorem dX8_laySold_4 : decode cX8_laySold 4 = .ok (.getfield 98, 3) := by decide +kernel
theorem dX8_laySold_7 : decode cX8_laySold 7 = .ok (.if_icmp .ge 16, 3) := by decide +kernel
theorem dX8_laySold_10 : decode cX8_laySold 10 = .ok (.aload_n 0, 1) := by decide +kernel
theorem dX8_laySold_11 : decode cX8_laySold 11 = .ok (.getfield 58, 3) := by decide +kernel
theorem dX8_laySold_14 : decode cX8_laySold 14 = .ok (.iload_n 1, 1) := by decide +kernel
theorem dX8_laySold_15 : decode cX8_laySold 15 = .ok (.iconst 0, 1) := by decide +kernel
theorem dX8_laySold_16 : decode cX8_laySold 16 = .ok (.iastore, 1) := by decide +kernel
theorem dX8_laySold_17 : decode cX8_laySold 17 = .ok (.iinc 1 1, 3) := by decide +kernel
theorem dX8_laySold_20 : decode cX8_laySold 20 = .ok (.goto (-18), 3) := by decide +kernel
theorem dX8_laySold_23 : decode cX8_laySold 23 = .ok (.iconst 0, 1) := by decide +kernel
theorem dX8_laySold_24 : decode cX8_laySold 24 = .ok (.istore_n 1, 1) := by decide +kernel
theorem dX8_laySold_25 : decode cX8_laySold 25 = .ok (.iconst 0, 1) := by decide +kernel
theorem dX8_laySold_26 : decode cX8_laySold 26 = .ok (.istore_n 2, 1) := by decide +kernel
theorem dX8_laySold_27 : decode cX8_laySold 27 = .ok (.iload_n 2, 1) := by decide +kernel
theorem dX8_laySold_28 : decode cX8_laySold 28 = .ok (.aload_n 0, 1) := by decide +kernel
theorem dX8_laySold_29 : decode cX8_laySold 29 = .ok (.getfield 101, 3) := by decide +kernel
theorem dX8_laySold_32 : decode cX8_laySold 32 = .ok (.if_icmp .ge 44, 3) := by decide +kernel
theorem dX8_laySold_35 : decode cX8_laySold 35 = .ok (.aload_n 0, 1) := by decide +kernel
theorem dX8_laySold_36 : decode cX8_laySold 36 = .ok (.iload_n 2, 1) := by decide +kernel
theorem dX8_laySold_37 : decode cX8_laySold 37 = .ok (.invokevirtual 125, 3) := by decide +kernel
theorem dX8_laySold_40 : decode cX8_laySold 40 = .ok (.istore_n 3, 1) := by decide +kernel
theorem dX8_laySold_41 : decode cX8_laySold 41 = .ok (.iload_n 3, 1) := by decide +kernel
theorem dX8_laySold_42 : decode cX8_laySold 42 = .ok (.iconst (-1), 1) := by decide +kernel
theorem dX8_laySold_43 : decode cX8_laySold 43 = .ok (.if_icmp .eq 27, 3) := by decide +kernel
theorem dX8_laySold_46 : decode cX8_laySold 46 = .ok (.aload_n 0, 1) := by decide +kernel
theorem dX8_laySold_47 : decode cX8_laySold 47 = .ok (.getfield 58, 3) := by decide +kernel
theorem dX8_laySold_50 : decode cX8_laySold 50 = .ok (.iload_n 3, 1) := by decide +kernel
theorem dX8_laySold_51 : decode cX8_laySold 51 = .ok (.dup2, 1) := by decide +kernel
theorem dX8_laySold_52 : decode cX8_laySold 52 = .ok (.iaload, 1) := by decide +kernel
theorem dX8_laySold_53 : decode cX8_laySold 53 = .ok (.aload_n 0, 1) := by decide +kernel
theorem dX8_laySold_54 : decode cX8_laySold 54 = .ok (.iload_n 2, 1) := by decide +kernel
theorem dX8_laySold_55 : decode cX8_laySold 55 = .ok (.iconst 1, 1) := by decide +kernel
theorem dX8_laySold_56 : decode cX8_laySold 56 = .ok (.invokevirtual 112, 3) := by decide +kernel
theorem dX8_laySold_59 : decode cX8_laySold 59 = .ok (.iadd, 1) := by decide +kernel
theorem dX8_laySold_60 : decode cX8_laySold 60 = .ok (.iastore, 1) := by decide +kernel
theorem dX8_laySold_61 : decode cX8_laySold 61 = .ok (.iload_n 1, 1) := by decide +kernel
theorem dX8_laySold_62 : decode cX8_laySold 62 = .ok (.aload_n 0, 1) := by decide +kernel
theorem dX8_laySold_63 : decode cX8_laySold 63 = .ok (.iload_n 2, 1) := by decide +kernel
theorem dX8_laySold_64 : decode cX8_laySold 64 = .ok (.iconst 1, 1) := by decide +kernel
theorem dX8_laySold_65 : decode cX8_laySold 65 = .ok (.invokevirtual 112, 3) := by decide +kernel
theorem dX8_laySold_68 : decode cX8_laySold 68 = .ok (.iadd, 1) := by decide +kernel
theorem dX8_laySold_69 : decode cX8_laySold 69 = .ok (.istore_n 1, 1) := by decide +kernel
theorem dX8_laySold_70 : decode cX8_laySold 70 = .ok (.iinc 2 1, 3) := by decide +kernel
theorem dX8_laySold_73 : decode cX8_laySold 73 = .ok (.goto (-46), 3) := by decide +kernel
theorem dX8_laySold_76 : decode cX8_laySold 76 = .ok (.iload_n 1, 1) := by decide +kernel
theorem dX8_laySold_77 : decode cX8_laySold 77 = .ok (.ireturn, 1) := by decide +kernel
theorem dX8_profitOf_0 : decode cX8_profitOf 0 = .ok (.aload_n 0, 1) := by decide +kernel
theorem dX8_profitOf_1 : decode cX8_profitOf 1 = .ok (.invokevirtual 128, 3) := by decide +kernel
theorem dX8_profitOf_4 : decode cX8_profitOf 4 = .ok (.pop, 1) := by decide +kernel
theorem dX8_profitOf_5 : decode cX8_profitOf 5 = .ok (.iconst 0, 1) := by decide +kernel
theorem dX8_profitOf_6 : decode cX8_profitOf 6 = .ok (.istore_n 2, 1) := by decide +kernel
theorem dX8_profitOf_7 : decode cX8_profitOf 7 = .ok (.iconst 0, 1) := by decide +kernel
theorem dX8_profitOf_8 : decode cX8_profitOf 8 = .ok (.istore_n 3, 1) := by decide +kernel
theorem dX8_profitOf_9 : decode cX8_profitOf 9 = .ok (.iload_n 3, 1) := by decide +kernel
theorem dX8_profitOf_10 : decode cX8_profitOf 10 = .ok (.aload_n 0, 1) := by decide +kernel
theorem dX8_profitOf_11 : decode cX8_profitOf 11 = .ok (.getfield 98, 3) := by decide +kernel
theorem dX8_profitOf_14 : decode cX8_profitOf 14 = .ok (.if_icmp .ge 80, 3) := by decide +kernel
theorem dX8_profitOf_17 : decode cX8_profitOf 17 = .ok (.aload_n 0, 1) := by decide +kernel
theorem dX8_profitOf_18 : decode cX8_profitOf 18 = .ok (.getfield 26, 3) := by decide +kernel
theorem dX8_profitOf_21 : decode cX8_profitOf 21 = .ok (.iload_n 3, 1) := by decide +kernel
theorem dX8_profitOf_22 : decode cX8_profitOf 22 = .ok (.iaload, 1) := by decide +kernel
theorem dX8_profitOf_23 : decode cX8_profitOf 23 = .ok (.aload_n 0, 1) := by decide +kernel
theorem dX8_profitOf_24 : decode cX8_profitOf 24 = .ok (.getfield 7, 3) := by decide +kernel
theorem dX8_profitOf_27 : decode cX8_profitOf 27 = .ok (.iload_n 1, 1) := by decide +kernel
theorem dX8_profitOf_28 : decode cX8_profitOf 28 = .ok (.iaload, 1) := by decide +kernel
theorem dX8_profitOf_29 : decode cX8_profitOf 29 = .ok (.iconst 3, 1) := by decide +kernel
theorem dX8_profitOf_30 : decode cX8_profitOf 30 = .ok (.if_icmp .ne 12, 3) := by decide +kernel
theorem dX8_profitOf_33 : decode cX8_profitOf 33 = .ok (.aload_n 0, 1) := by decide +kernel
theorem dX8_profitOf_34 : decode cX8_profitOf 34 = .ok (.getfield 13, 3) := by decide +kernel
theorem dX8_profitOf_37 : decode cX8_profitOf 37 = .ok (.iload_n 1, 1) := by decide +kernel
theorem dX8_profitOf_38 : decode cX8_profitOf 38 = .ok (.iaload, 1) := by decide +kernel
theorem dX8_profitOf_39 : decode cX8_profitOf 39 = .ok (.goto 4, 3) := by decide +kernel
theorem dX8_profitOf_42 : decode cX8_profitOf 42 = .ok (.iconst 0, 1) := by decide +kernel
theorem dX8_profitOf_43 : decode cX8_profitOf 43 = .ok (.isub, 1) := by decide +kernel
theorem dX8_profitOf_44 : decode cX8_profitOf 44 = .ok (.istore 4, 2) := by decide +kernel
theorem dX8_profitOf_46 : decode cX8_profitOf 46 = .ok (.iload_n 2, 1) := by decide +kernel
theorem dX8_profitOf_47 : decode cX8_profitOf 47 = .ok (.aload_n 0, 1) := by decide +kernel
theorem dX8_profitOf_48 : decode cX8_profitOf 48 = .ok (.getfield 20, 3) := by decide +kernel
theorem dX8_profitOf_51 : decode cX8_profitOf 51 = .ok (.iload_n 3, 1) := by decide +kernel
theorem dX8_profitOf_52 : decode cX8_profitOf 52 = .ok (.iaload, 1) := by decide +kernel
theorem dX8_profitOf_53 : decode cX8_profitOf 53 = .ok (.iload_n 1, 1) := by decide +kernel
theorem dX8_profitOf_54 : decode cX8_profitOf 54 = .ok (.if_icmp .ne 31, 3) := by decide +kernel
theorem dX8_profitOf_57 : decode cX8_profitOf 57 = .ok (.aload_n 0, 1) := by decide +kernel
theorem dX8_profitOf_58 : decode cX8_profitOf 58 = .ok (.getfield 58, 3) := by decide +kernel
theorem dX8_profitOf_61 : decode cX8_profitOf 61 = .ok (.iload_n 3, 1) := by decide +kernel
theorem dX8_profitOf_62 : decode cX8_profitOf 62 = .ok (.iaload, 1) := by decide +kernel
theorem dX8_profitOf_63 : decode cX8_profitOf 63 = .ok (.aload_n 0, 1) := by decide +kernel
theorem dX8_profitOf_64 : decode cX8_profitOf 64 = .ok (.getfield 29, 3) := by decide +kernel
theorem dX8_profitOf_67 : decode cX8_profitOf 67 = .ok (.iload_n 3, 1) := by decide +kernel
theorem dX8_profitOf_68 : decode cX8_profitOf 68 = .ok (.iaload, 1) := by decide +kernel
theorem dX8_profitOf_69 : decode cX8_profitOf 69 = .ok (.iload 4, 2) := by decide +kernel
theorem dX8_profitOf_71 : decode cX8_profitOf 71 = .ok (.ifCond .ge 7, 3) := by decide +kernel
theorem dX8_profitOf_74 : decode cX8_profitOf 74 = .ok (.iconst 0, 1) := by decide +kernel
theorem dX8_profitOf_75 : decode cX8_profitOf 75 = .ok (.goto 5, 3) := by decide +kernel
theorem dX8_profitOf_78 : decode cX8_profitOf 78 = .ok (.iload 4, 2) := by decide +kernel
theorem dX8_profitOf_80 : decode cX8_profitOf 80 = .ok (.isub, 1) := by decide +kernel
theorem dX8_profitOf_81 : decode cX8_profitOf 81 = .ok (.imul, 1) := by decide +kernel
theorem dX8_profitOf_82 : decode cX8_profitOf 82 = .ok (.goto 4, 3) := by decide +kernel
theorem dX8_profitOf_85 : decode cX8_profitOf 85 = .ok (.iconst 0, 1) := by decide +kernel
theorem dX8_profitOf_86 : decode cX8_profitOf 86 = .ok (.iadd, 1) := by decide +kernel
theorem dX8_profitOf_87 : decode cX8_profitOf 87 = .ok (.istore_n 2, 1) := by decide +kernel
theorem dX8_profitOf_88 : decode cX8_profitOf 88 = .ok (.iinc 3 1, 3) := by decide +kernel
theorem dX8_profitOf_91 : decode cX8_profitOf 91 = .ok (.goto (-82), 3) := by decide +kernel
theorem dX8_profitOf_94 : decode cX8_profitOf 94 = .ok (.iload_n 2, 1) := by decide +kernel
theorem dX8_profitOf_95 : decode cX8_profitOf 95 = .ok (.ireturn, 1) := by decide +kernel
theorem dX8_aboutOf_0 : decode cX8_aboutOf 0 = .ok (.iload_n 2, 1) := by decide +kernel
theorem dX8_aboutOf_1 : decode cX8_aboutOf 1 = .ok (.tableswitch 77 0 4 #[35, 42, 49, 56, 63], 35) := by decide +kernel
theorem dX8_aboutOf_36 : decode cX8_aboutOf 36 = .ok (.aload_n 0, 1) := by decide +kernel
theorem dX8_aboutOf_37 : decode cX8_aboutOf 37 = .ok (.getfield 20, 3) := by decide +kernel
theorem dX8_aboutOf_40 : decode cX8_aboutOf 40 = .ok (.iload_n 1, 1) := by decide +kernel
theorem dX8_aboutOf_41 : decode cX8_aboutOf 41 = .ok (.iaload, 1) := by decide +kernel
theorem dX8_aboutOf_42 : decode cX8_aboutOf 42 = .ok (.ireturn, 1) := by decide +kernel
theorem dX8_aboutOf_43 : decode cX8_aboutOf 43 = .ok (.aload_n 0, 1) := by decide +kernel
theorem dX8_aboutOf_44 : decode cX8_aboutOf 44 = .ok (.getfield 23, 3) := by decide +kernel
theorem dX8_aboutOf_47 : decode cX8_aboutOf 47 = .ok (.iload_n 1, 1) := by decide +kernel
theorem dX8_aboutOf_48 : decode cX8_aboutOf 48 = .ok (.iaload, 1) := by decide +kernel
theorem dX8_aboutOf_49 : decode cX8_aboutOf 49 = .ok (.ireturn, 1) := by decide +kernel
theorem dX8_aboutOf_50 : decode cX8_aboutOf 50 = .ok (.aload_n 0, 1) := by decide +kernel
theorem dX8_aboutOf_51 : decode cX8_aboutOf 51 = .ok (.getfield 26, 3) := by decide +kernel
theorem dX8_aboutOf_54 : decode cX8_aboutOf 54 = .ok (.iload_n 1, 1) := by decide +kernel
theorem dX8_aboutOf_55 : decode cX8_aboutOf 55 = .ok (.iaload, 1) := by decide +kernel
theorem dX8_aboutOf_56 : decode cX8_aboutOf 56 = .ok (.ireturn, 1) := by decide +kernel
theorem dX8_aboutOf_57 : decode cX8_aboutOf 57 = .ok (.aload_n 0, 1) := by decide +kernel
theorem dX8_aboutOf_58 : decode cX8_aboutOf 58 = .ok (.getfield 29, 3) := by decide +kernel
theorem dX8_aboutOf_61 : decode cX8_aboutOf 61 = .ok (.iload_n 1, 1) := by decide +kernel
theorem dX8_aboutOf_62 : decode cX8_aboutOf 62 = .ok (.iaload, 1) := by decide +kernel
theorem dX8_aboutOf_63 : decode cX8_aboutOf 63 = .ok (.ireturn, 1) := by decide +kernel
theorem dX8_aboutOf_64 : decode cX8_aboutOf 64 = .ok (.aload_n 0, 1) := by decide +kernel
theorem dX8_aboutOf_65 : decode cX8_aboutOf 65 = .ok (.iload_n 1, 1) := by decide +kernel
theorem dX8_aboutOf_66 : decode cX8_aboutOf 66 = .ok (.invokevirtual 119, 3) := by decide +kernel
theorem dX8_aboutOf_69 : decode cX8_aboutOf 69 = .ok (.ifCond .eq 7, 3) := by decide +kernel
theorem dX8_aboutOf_72 : decode cX8_aboutOf 72 = .ok (.iconst 1, 1) := by decide +kernel
theorem dX8_aboutOf_73 : decode cX8_aboutOf 73 = .ok (.goto 4, 3) := by decide +kernel
theorem dX8_aboutOf_76 : decode cX8_aboutOf 76 = .ok (.iconst 0, 1) := by decide +kernel
theorem dX8_aboutOf_77 : decode cX8_aboutOf 77 = .ok (.ireturn, 1) := by decide +kernel
theorem dX8_aboutOf_78 : decode cX8_aboutOf 78 = .ok (.aload_n 0, 1) := by decide +kernel
theorem dX8_aboutOf_79 : decode cX8_aboutOf 79 = .ok (.invokevirtual 128, 3) := by decide +kernel
theorem dX8_aboutOf_82 : decode cX8_aboutOf 82 = .ok (.pop, 1) := by decide +kernel
theorem dX8_aboutOf_83 : decode cX8_aboutOf 83 = .ok (.aload_n 0, 1) := by decide +kernel
theorem dX8_aboutOf_84 : decode cX8_aboutOf 84 = .ok (.getfield 58, 3) := by decide +kernel
theorem dX8_aboutOf_87 : decode cX8_aboutOf 87 = .ok (.iload_n 1, 1) := by decide +kernel
theorem dX8_aboutOf_88 : decode cX8_aboutOf 88 = .ok (.iaload, 1) := by decide +kernel
theorem dX8_aboutOf_89 : decode cX8_aboutOf 89 = .ok (.ireturn, 1) := by decide +kernel
theorem dX8_about_0 : decode cX8_about 0 = .ok (.aload_n 0, 1) := by decide +kernel
theorem dX8_about_1 : decode cX8_about 1 = .ok (.iload_n 1, 1) := by decide +kernel
theorem dX8_about_2 : decode cX8_about 2 = .ok (.invokevirtual 132, 3) := by decide +kernel
theorem dX8_about_5 : decode cX8_about 5 = .ok (.ifCond .ne 8, 3) := by decide +kernel
theorem dX8_about_8 : decode cX8_about 8 = .ok (.bipush (-101), 2) := by decide +kernel
theorem dX8_about_10 : decode cX8_about 10 = .ok (.goto 23, 3) := by decide +kernel
theorem dX8_about_13 : decode cX8_about 13 = .ok (.iload_n 2, 1) := by decide +kernel
theorem dX8_about_14 : decode cX8_about 14 = .ok (.iconst 0, 1) := by decide +kernel
theorem dX8_about_15 : decode cX8_about 15 = .ok (.iconst 5, 1) := by decide +kernel
theorem dX8_about_16 : decode cX8_about 16 = .ok (.invokestatic 94, 3) := by decide +kernel
theorem dX8_about_19 : decode cX8_about 19 = .ok (.ifCond .eq 12, 3) := by decide +kernel
theorem dX8_about_22 : decode cX8_about 22 = .ok (.aload_n 0, 1) := by decide +kernel
theorem dX8_about_23 : decode cX8_about 23 = .ok (.iload_n 1, 1) := by decide +kernel
theorem dX8_about_24 : decode cX8_about 24 = .ok (.iload_n 2, 1) := by decide +kernel
theorem dX8_about_25 : decode cX8_about 25 = .ok (.invokevirtual 135, 3) := by decide +kernel
theorem dX8_about_28 : decode cX8_about 28 = .ok (.goto 5, 3) := by decide +kernel
theorem dX8_about_31 : decode cX8_about 31 = .ok (.bipush (-102), 2) := by decide +kernel
theorem dX8_about_33 : decode cX8_about 33 = .ok (.ireturn, 1) := by decide +kernel
theorem dX8_price_0 : decode cX8_price 0 = .ok (.aload_n 0, 1) := by decide +kernel
theorem dX8_price_1 : decode cX8_price 1 = .ok (.iload_n 1, 1) := by decide +kernel
theorem dX8_price_2 : decode cX8_price 2 = .ok (.invokevirtual 132, 3) := by decide +kernel
theorem dX8_price_5 : decode cX8_price 5 = .ok (.ifCond .ne 6, 3) := by decide +kernel
theorem dX8_price_8 : decode cX8_price 8 = .ok (.bipush (-101), 2) := by decide +kernel
theorem dX8_price_10 : decode cX8_price 10 = .ok (.ireturn, 1) := by decide +kernel
theorem dX8_price_11 : decode cX8_price 11 = .ok (.iload_n 2, 1) := by decide +kernel
theorem dX8_price_12 : decode cX8_price 12 = .ok (.iconst 0, 1) := by decide +kernel
theorem dX8_price_13 : decode cX8_price 13 = .ok (.bipush 9, 2) := by decide +kernel
theorem dX8_price_15 : decode cX8_price 15 = .ok (.invokestatic 94, 3) := by decide +kernel
theorem dX8_price_18 : decode cX8_price 18 = .ok (.ifCond .ne 6, 3) := by decide +kernel
theorem dX8_price_21 : decode cX8_price 21 = .ok (.bipush (-102), 2) := by decide +kernel
theorem dX8_price_23 : decode cX8_price 23 = .ok (.ireturn, 1) := by decide +kernel
theorem dX8_price_24 : decode cX8_price 24 = .ok (.aload_n 0, 1) := by decide +kernel
theorem dX8_price_25 : decode cX8_price 25 = .ok (.getfield 29, 3) := by decide +kernel
theorem dX8_price_28 : decode cX8_price 28 = .ok (.iload_n 1, 1) := by decide +kernel
theorem dX8_price_29 : decode cX8_price 29 = .ok (.iaload, 1) := by decide +kernel
theorem dX8_price_30 : decode cX8_price 30 = .ok (.istore_n 3, 1) := by decide +kernel
theorem dX8_price_31 : decode cX8_price 31 = .ok (.aload_n 0, 1) := by decide +kernel
theorem dX8_price_32 : decode cX8_price 32 = .ok (.getfield 29, 3) := by decide +kernel
theorem dX8_price_35 : decode cX8_price 35 = .ok (.iload_n 1, 1) := by decide +kernel
theorem dX8_price_36 : decode cX8_price 36 = .ok (.iload_n 2, 1) := by decide +kernel
theorem dX8_price_37 : decode cX8_price 37 = .ok (.iastore, 1) := by decide +kernel
theorem dX8_price_38 : decode cX8_price 38 = .ok (.iload_n 3, 1) := by decide +kernel
theorem dX8_price_39 : decode cX8_price 39 = .ok (.ireturn, 1) := by decide +kernel
theorem dX8_sort_0 : decode cX8_sort 0 = .ok (.iload_n 1, 1) := by decide +kernel
theorem dX8_sort_1 : decode cX8_sort 1 = .ok (.iconst 0, 1) := by decide +kernel
theorem dX8_sort_2 : decode cX8_sort 2 = .ok (.bipush 9, 2) := by decide +kernel
theorem dX8_sort_4 : decode cX8_sort 4 = .ok (.invokestatic 94, 3) := by decide +kernel
theorem dX8_sort_7 : decode cX8_sort 7 = .ok (.ifCond .eq 44, 3) := by decide +kernel
theorem dX8_sort_10 : decode cX8_sort 10 = .ok (.iload_n 2, 1) := by decide +kernel
theorem dX8_sort_11 : decode cX8_sort 11 = .ok (.iconst 1, 1) := by decide +kernel
theorem dX8_sort_12 : decode cX8_sort 12 = .ok (.bipush 50, 2) := by decide +kernel
theorem dX8_sort_14 : decode cX8_sort 14 = .ok (.invokestatic 94, 3) := by decide +kernel
theorem dX8_sort_17 : decode cX8_sort 17 = .ok (.ifCond .eq 34, 3) := by decide +kernel
theorem dX8_sort_20 : decode cX8_sort 20 = .ok (.iload_n 3, 1) := by decide +kernel
theorem dX8_sort_21 : decode cX8_sort 21 = .ok (.iconst 0, 1) := by decide +kernel
theorem dX8_sort_22 : decode cX8_sort 22 = .ok (.iconst 5, 1) := by decide +kernel
theorem dX8_sort_23 : decode cX8_sort 23 = .ok (.invokestatic 94, 3) := by decide +kernel
theorem dX8_sort_26 : decode cX8_sort 26 = .ok (.ifCond .eq 25, 3) := by decide +kernel
theorem dX8_sort_29 : decode cX8_sort 29 = .ok (.iload 4, 2) := by decide +kernel
theorem dX8_sort_31 : decode cX8_sort 31 = .ok (.iconst 0, 1) := by decide +kernel
theorem dX8_sort_32 : decode cX8_sort 32 = .ok (.bipush 30, 2) := by decide +kernel
theorem dX8_sort_34 : decode cX8_sort 34 = .ok (.invokestatic 94, 3) := by decide +kernel
theorem dX8_sort_37 : decode cX8_sort 37 = .ok (.ifCond .eq 14, 3) := by decide +kernel
theorem dX8_sort_40 : decode cX8_sort 40 = .ok (.iload 6, 2) := by decide +kernel
theorem dX8_sort_42 : decode cX8_sort 42 = .ok (.iconst 0, 1) := by decide +kernel
theorem dX8_sort_43 : decode cX8_sort 43 = .ok (.bipush 9, 2) := by decide +kernel
theorem dX8_sort_45 : decode cX8_sort 45 = .ok (.invokestatic 94, 3) := by decide +kernel
theorem dX8_sort_48 : decode cX8_sort 48 = .ok (.ifCond .ne 6, 3) := by decide +kernel
theorem dX8_sort_51 : decode cX8_sort 51 = .ok (.bipush (-102), 2) := by decide +kernel
theorem dX8_sort_53 : decode cX8_sort 53 = .ok (.ireturn, 1) := by decide +kernel
theorem dX8_sort_54 : decode cX8_sort 54 = .ok (.iload 5, 2) := by decide +kernel
theorem dX8_sort_56 : decode cX8_sort 56 = .ok (.iconst (-1), 1) := by decide +kernel
theorem dX8_sort_57 : decode cX8_sort 57 = .ok (.if_icmp .eq 15, 3) := by decide +kernel
theorem dX8_sort_60 : decode cX8_sort 60 = .ok (.aload_n 0, 1) := by decide +kernel
theorem dX8_sort_61 : decode cX8_sort 61 = .ok (.iload 5, 2) := by decide +kernel
theorem dX8_sort_63 : decode cX8_sort 63 = .ok (.invokevirtual 132, 3) := by decide +kernel
theorem dX8_sort_66 : decode cX8_sort 66 = .ok (.ifCond .ne 6, 3) := by decide +kernel
theorem dX8_sort_69 : decode cX8_sort 69 = .ok (.bipush (-101), 2) := by decide +kernel
theorem dX8_sort_71 : decode cX8_sort 71 = .ok (.ireturn, 1) := by decide +kernel
theorem dX8_sort_72 : decode cX8_sort 72 = .ok (.aload_n 0, 1) := by decide +kernel
theorem dX8_sort_73 : decode cX8_sort 73 = .ok (.getfield 101, 3) := by decide +kernel
theorem dX8_sort_76 : decode cX8_sort 76 = .ok (.bipush 8, 2) := by decide +kernel
theorem dX8_sort_78 : decode cX8_sort 78 = .ok (.if_icmp .ne 6, 3) := by decide +kernel
theorem dX8_sort_81 : decode cX8_sort 81 = .ok (.bipush (-104), 2) := by decide +kernel
theorem dX8_sort_83 : decode cX8_sort 83 = .ok (.ireturn, 1) := by decide +kernel
theorem dX8_sort_84 : decode cX8_sort 84 = .ok (.aload_n 0, 1) := by decide +kernel
theorem dX8_sort_85 : decode cX8_sort 85 = .ok (.getfield 32, 3) := by decide +kernel
theorem dX8_sort_88 : decode cX8_sort 88 = .ok (.bipush 6, 2) := by decide +kernel
theorem dX8_sort_90 : decode cX8_sort 90 = .ok (.aload_n 0, 1) := by decide +kernel
theorem dX8_sort_91 : decode cX8_sort 91 = .ok (.getfield 101, 3) := by decide +kernel
theorem dX8_sort_94 : decode cX8_sort 94 = .ok (.imul, 1) := by decide +kernel
theorem dX8_sort_95 : decode cX8_sort 95 = .ok (.iload_n 1, 1) := by decide +kernel
theorem dX8_sort_96 : decode cX8_sort 96 = .ok (.iastore, 1) := by decide +kernel
theorem dX8_sort_97 : decode cX8_sort 97 = .ok (.aload_n 0, 1) := by decide +kernel
theorem dX8_sort_98 : decode cX8_sort 98 = .ok (.getfield 32, 3) := by decide +kernel
theorem dX8_sort_101 : decode cX8_sort 101 = .ok (.bipush 6, 2) := by decide +kernel
theorem dX8_sort_103 : decode cX8_sort 103 = .ok (.aload_n 0, 1) := by decide +kernel
theorem dX8_sort_104 : decode cX8_sort 104 = .ok (.getfield 101, 3) := by decide +kernel
theorem dX8_sort_107 : decode cX8_sort 107 = .ok (.imul, 1) := by decide +kernel
theorem dX8_sort_108 : decode cX8_sort 108 = .ok (.iconst 1, 1) := by decide +kernel
theorem dX8_sort_109 : decode cX8_sort 109 = .ok (.iadd, 1) := by decide +kernel
theorem dX8_sort_110 : decode cX8_sort 110 = .ok (.iload_n 2, 1) := by decide +kernel
theorem dX8_sort_111 : decode cX8_sort 111 = .ok (.iastore, 1) := by decide +kernel
theorem dX8_sort_112 : decode cX8_sort 112 = .ok (.aload_n 0, 1) := by decide +kernel
theorem dX8_sort_113 : decode cX8_sort 113 = .ok (.getfield 32, 3) := by decide +kernel
theorem dX8_sort_116 : decode cX8_sort 116 = .ok (.bipush 6, 2) := by decide +kernel
theorem dX8_sort_118 : decode cX8_sort 118 = .ok (.aload_n 0, 1) := by decide +kernel
theorem dX8_sort_119 : decode cX8_sort 119 = .ok (.getfield 101, 3) := by decide +kernel
theorem dX8_sort_122 : decode cX8_sort 122 = .ok (.imul, 1) := by decide +kernel
theorem dX8_sort_123 : decode cX8_sort 123 = .ok (.iconst 2, 1) := by decide +kernel
theorem dX8_sort_124 : decode cX8_sort 124 = .ok (.iadd, 1) := by decide +kernel
theorem dX8_sort_125 : decode cX8_sort 125 = .ok (.iload_n 3, 1) := by decide +kernel
theorem dX8_sort_126 : decode cX8_sort 126 = .ok (.iastore, 1) := by decide +kernel
theorem dX8_sort_127 : decode cX8_sort 127 = .ok (.aload_n 0, 1) := by decide +kernel
theorem dX8_sort_128 : decode cX8_sort 128 = .ok (.getfield 32, 3) := by decide +kernel
theorem dX8_sort_131 : decode cX8_sort 131 = .ok (.bipush 6, 2) := by decide +kernel
theorem dX8_sort_133 : decode cX8_sort 133 = .ok (.aload_n 0, 1) := by decide +kernel
theorem dX8_sort_134 : decode cX8_sort 134 = .ok (.getfield 101, 3) := by decide +kernel
theorem dX8_sort_137 : decode cX8_sort 137 = .ok (.imul, 1) := by decide +kernel
theorem dX8_sort_138 : decode cX8_sort 138 = .ok (.iconst 3, 1) := by decide +kernel
theorem dX8_sort_139 : decode cX8_sort 139 = .ok (.iadd, 1) := by decide +kernel
theorem dX8_sort_140 : decode cX8_sort 140 = .ok (.iload 4, 2) := by decide +kernel
theorem dX8_sort_142 : decode cX8_sort 142 = .ok (.iastore, 1) := by decide +kernel
theorem dX8_sort_143 : decode cX8_sort 143 = .ok (.aload_n 0, 1) := by decide +kernel
theorem dX8_sort_144 : decode cX8_sort 144 = .ok (.getfield 32, 3) := by decide +kernel
theorem dX8_sort_147 : decode cX8_sort 147 = .ok (.bipush 6, 2) := by decide +kernel
theorem dX8_sort_149 : decode cX8_sort 149 = .ok (.aload_n 0, 1) := by decide +kernel
theorem dX8_sort_150 : decode cX8_sort 150 = .ok (.getfield 101, 3) := by decide +kernel
theorem dX8_sort_153 : decode cX8_sort 153 = .ok (.imul, 1) := by decide +kernel
theorem dX8_sort_154 : decode cX8_sort 154 = .ok (.iconst 4, 1) := by decide +kernel
theorem dX8_sort_155 : decode cX8_sort 155 = .ok (.iadd, 1) := by decide +kernel
theorem dX8_sort_156 : decode cX8_sort 156 = .ok (.iload 5, 2) := by decide +kernel
theorem dX8_sort_158 : decode cX8_sort 158 = .ok (.iastore, 1) := by decide +kernel
theorem dX8_sort_159 : decode cX8_sort 159 = .ok (.aload_n 0, 1) := by decide +kernel
theorem dX8_sort_160 : decode cX8_sort 160 = .ok (.getfield 32, 3) := by decide +kernel
theorem dX8_sort_163 : decode cX8_sort 163 = .ok (.bipush 6, 2) := by decide +kernel
theorem dX8_sort_165 : decode cX8_sort 165 = .ok (.aload_n 0, 1) := by decide +kernel
theorem dX8_sort_166 : decode cX8_sort 166 = .ok (.getfield 101, 3) := by decide +kernel
theorem dX8_sort_169 : decode cX8_sort 169 = .ok (.imul, 1) := by decide +kernel
theorem dX8_sort_170 : decode cX8_sort 170 = .ok (.iconst 5, 1) := by decide +kernel
theorem dX8_sort_171 : decode cX8_sort 171 = .ok (.iadd, 1) := by decide +kernel
theorem dX8_sort_172 : decode cX8_sort 172 = .ok (.iload 6, 2) := by decide +kernel
theorem dX8_sort_174 : decode cX8_sort 174 = .ok (.iastore, 1) := by decide +kernel
theorem dX8_sort_175 : decode cX8_sort 175 = .ok (.aload_n 0, 1) := by decide +kernel
theorem dX8_sort_176 : decode cX8_sort 176 = .ok (.dup, 1) := by decide +kernel
theorem dX8_sort_177 : decode cX8_sort 177 = .ok (.getfield 101, 3) := by decide +kernel
theorem dX8_sort_180 : decode cX8_sort 180 = .ok (.iconst 1, 1) := by decide +kernel
theorem dX8_sort_181 : decode cX8_sort 181 = .ok (.iadd, 1) := by decide +kernel
theorem dX8_sort_182 : decode cX8_sort 182 = .ok (.putfield 101, 3) := by decide +kernel
theorem dX8_sort_185 : decode cX8_sort 185 = .ok (.aload_n 0, 1) := by decide +kernel
theorem dX8_sort_186 : decode cX8_sort 186 = .ok (.getfield 101, 3) := by decide +kernel
theorem dX8_sort_189 : decode cX8_sort 189 = .ok (.iconst 1, 1) := by decide +kernel
theorem dX8_sort_190 : decode cX8_sort 190 = .ok (.isub, 1) := by decide +kernel
theorem dX8_sort_191 : decode cX8_sort 191 = .ok (.ireturn, 1) := by decide +kernel
theorem dX8_is_0 : decode cX8_is 0 = .ok (.aload_n 0, 1) := by decide +kernel
theorem dX8_is_1 : decode cX8_is 1 = .ok (.iload_n 1, 1) := by decide +kernel
theorem dX8_is_2 : decode cX8_is 2 = .ok (.invokevirtual 138, 3) := by decide +kernel
theorem dX8_is_5 : decode cX8_is 5 = .ok (.ifCond .eq 20, 3) := by decide +kernel
theorem dX8_is_8 : decode cX8_is 8 = .ok (.aload_n 0, 1) := by decide +kernel
theorem dX8_is_9 : decode cX8_is 9 = .ok (.iload_n 2, 1) := by decide +kernel
theorem dX8_is_10 : decode cX8_is 10 = .ok (.invokevirtual 132, 3) := by decide +kernel
theorem dX8_is_13 : decode cX8_is 13 = .ok (.ifCond .eq 12, 3) := by decide +kernel
theorem dX8_is_16 : decode cX8_is 16 = .ok (.aload_n 0, 1) := by decide +kernel
theorem dX8_is_17 : decode cX8_is 17 = .ok (.iload_n 1, 1) := by decide +kernel
theorem dX8_is_18 : decode cX8_is 18 = .ok (.iload_n 2, 1) := by decide +kernel
theorem dX8_is_19 : decode cX8_is 19 = .ok (.invokevirtual 122, 3) := by decide +kernel
theorem dX8_is_22 : decode cX8_is 22 = .ok (.goto 6, 3) := by decide +kernel
theorem dX8_is_25 : decode cX8_is 25 = .ok (.sipush (-1001), 3) := by decide +kernel
theorem dX8_is_28 : decode cX8_is 28 = .ok (.ireturn, 1) := by decide +kernel
theorem dX8_goes_0 : decode cX8_goes 0 = .ok (.aload_n 0, 1) := by decide +kernel
theorem dX8_goes_1 : decode cX8_goes 1 = .ok (.iload_n 1, 1) := by decide +kernel
theorem dX8_goes_2 : decode cX8_goes 2 = .ok (.invokevirtual 138, 3) := by decide +kernel
theorem dX8_goes_5 : decode cX8_goes 5 = .ok (.ifCond .eq 11, 3) := by decide +kernel
theorem dX8_goes_8 : decode cX8_goes 8 = .ok (.aload_n 0, 1) := by decide +kernel
theorem dX8_goes_9 : decode cX8_goes 9 = .ok (.iload_n 1, 1) := by decide +kernel
theorem dX8_goes_10 : decode cX8_goes 10 = .ok (.invokevirtual 125, 3) := by decide +kernel
theorem dX8_goes_13 : decode cX8_goes 13 = .ok (.goto 5, 3) := by decide +kernel
theorem dX8_goes_16 : decode cX8_goes 16 = .ok (.bipush (-101), 2) := by decide +kernel
theorem dX8_goes_18 : decode cX8_goes 18 = .ok (.ireturn, 1) := by decide +kernel
theorem dX8_spare_0 : decode cX8_spare 0 = .ok (.aload_n 0, 1) := by decide +kernel
theorem dX8_spare_1 : decode cX8_spare 1 = .ok (.iload_n 1, 1) := by decide +kernel
theorem dX8_spare_2 : decode cX8_spare 2 = .ok (.invokevirtual 138, 3) := by decide +kernel
theorem dX8_spare_5 : decode cX8_spare 5 = .ok (.ifCond .eq 11, 3) := by decide +kernel
theorem dX8_spare_8 : decode cX8_spare 8 = .ok (.aload_n 0, 1) := by decide +kernel
theorem dX8_spare_9 : decode cX8_spare 9 = .ok (.iload_n 1, 1) := by decide +kernel
theorem dX8_spare_10 : decode cX8_spare 10 = .ok (.invokevirtual 141, 3) := by decide +kernel
theorem dX8_spare_13 : decode cX8_spare 13 = .ok (.goto 5, 3) := by decide +kernel
theorem dX8_spare_16 : decode cX8_spare 16 = .ok (.bipush (-101), 2) := by decide +kernel
theorem dX8_spare_18 : decode cX8_spare 18 = .ok (.ireturn, 1) := by decide +kernel
theorem dX8_profit_0 : decode cX8_profit 0 = .ok (.aload_n 0, 1) := by decide +kernel
theorem dX8_profit_1 : decode cX8_profit 1 = .ok (.iload_n 1, 1) := by decide +kernel
theorem dX8_profit_2 : decode cX8_profit 2 = .ok (.invokevirtual 104, 3) := by decide +kernel
theorem dX8_profit_5 : decode cX8_profit 5 = .ok (.ifCond .eq 11, 3) := by decide +kernel
theorem dX8_profit_8 : decode cX8_profit 8 = .ok (.aload_n 0, 1) := by decide +kernel
theorem dX8_profit_9 : decode cX8_profit 9 = .ok (.iload_n 1, 1) := by decide +kernel
theorem dX8_profit_10 : decode cX8_profit 10 = .ok (.invokevirtual 144, 3) := by decide +kernel
theorem dX8_profit_13 : decode cX8_profit 13 = .ok (.goto 5, 3) := by decide +kernel
theorem dX8_profit_16 : decode cX8_profit 16 = .ok (.ldc 147, 2) := by decide +kernel
theorem dX8_profit_18 : decode cX8_profit 18 = .ok (.ireturn, 1) := by decide +kernel
theorem dX8_layCode_0 : decode cX8_layCode 0 = .ok (.iload_n 3, 1) := by decide +kernel
theorem dX8_layCode_1 : decode cX8_layCode 1 = .ok (.bipush 10, 2) := by decide +kernel
theorem dX8_layCode_3 : decode cX8_layCode 3 = .ok (.idiv, 1) := by decide +kernel
theorem dX8_layCode_4 : decode cX8_layCode 4 = .ok (.istore 5, 2) := by decide +kernel
theorem dX8_layCode_6 : decode cX8_layCode 6 = .ok (.iconst 0, 1) := by decide +kernel
theorem dX8_layCode_7 : decode cX8_layCode 7 = .ok (.istore 6, 2) := by decide +kernel
theorem dX8_layCode_9 : decode cX8_layCode 9 = .ok (.iload 6, 2) := by decide +kernel
theorem dX8_layCode_11 : decode cX8_layCode 11 = .ok (.aload_n 0, 1) := by decide +kernel
theorem dX8_layCode_12 : decode cX8_layCode 12 = .ok (.getfield 98, 3) := by decide +kernel
theorem dX8_layCode_15 : decode cX8_layCode 15 = .ok (.if_icmp .ge 61, 3) := by decide +kernel
theorem dX8_layCode_18 : decode cX8_layCode 18 = .ok (.aload_n 0, 1) := by decide +kernel
theorem dX8_layCode_19 : decode cX8_layCode 19 = .ok (.getfield 20, 3) := by decide +kernel
theorem dX8_layCode_22 : decode cX8_layCode 22 = .ok (.iload 6, 2) := by decide +kernel
theorem dX8_layCode_24 : decode cX8_layCode 24 = .ok (.iaload, 1) := by decide +kernel
theorem dX8_layCode_25 : decode cX8_layCode 25 = .ok (.iload_n 1, 1) := by decide +kernel
theorem dX8_layCode_26 : decode cX8_layCode 26 = .ok (.if_icmp .ne 44, 3) := by decide +kernel
theorem dX8_layCode_29 : decode cX8_layCode 29 = .ok (.aload_n 0, 1) := by decide +kernel
theorem dX8_layCode_30 : decode cX8_layCode 30 = .ok (.getfield 29, 3) := by decide +kernel
theorem dX8_layCode_33 : decode cX8_layCode 33 = .ok (.iload 6, 2) := by decide +kernel
theorem dX8_layCode_35 : decode cX8_layCode 35 = .ok (.iload 4, 2) := by decide +kernel
theorem dX8_layCode_37 : decode cX8_layCode 37 = .ok (.ifCond .eq 7, 3) := by decide +kernel
theorem dX8_layCode_40 : decode cX8_layCode 40 = .ok (.iload_n 2, 1) := by decide +kernel
theorem dX8_layCode_41 : decode cX8_layCode 41 = .ok (.goto 10, 3) := by decide +kernel
theorem dX8_layCode_44 : decode cX8_layCode 44 = .ok (.iload_n 2, 1) := by decide +kernel
theorem dX8_layCode_45 : decode cX8_layCode 45 = .ok (.iload 5, 2) := by decide +kernel
theorem dX8_layCode_47 : decode cX8_layCode 47 = .ok (.idiv, 1) := by decide +kernel
theorem dX8_layCode_48 : decode cX8_layCode 48 = .ok (.bipush 10, 2) := by decide +kernel
theorem dX8_layCode_50 : decode cX8_layCode 50 = .ok (.irem, 1) := by decide +kernel
theorem dX8_layCode_51 : decode cX8_layCode 51 = .ok (.iastore, 1) := by decide +kernel
theorem dX8_layCode_52 : decode cX8_layCode 52 = .ok (.iload 5, 2) := by decide +kernel
theorem dX8_layCode_54 : decode cX8_layCode 54 = .ok (.bipush 9, 2) := by decide +kernel
theorem dX8_layCode_56 : decode cX8_layCode 56 = .ok (.if_icmp .le 11, 3) := by decide +kernel
theorem dX8_layCode_59 : decode cX8_layCode 59 = .ok (.iload 5, 2) := by decide +kernel
theorem dX8_layCode_61 : decode cX8_layCode 61 = .ok (.bipush 10, 2) := by decide +kernel
theorem dX8_layCode_63 : decode cX8_layCode 63 = .ok (.idiv, 1) := by decide +kernel
theorem dX8_layCode_64 : decode cX8_layCode 64 = .ok (.goto 4, 3) := by decide +kernel
theorem dX8_layCode_67 : decode cX8_layCode 67 = .ok (.iconst 1, 1) := by decide +kernel
theorem dX8_layCode_68 : decode cX8_layCode 68 = .ok (.istore 5, 2) := by decide +kernel
theorem dX8_layCode_70 : decode cX8_layCode 70 = .ok (.iinc 6 1, 3) := by decide +kernel
theorem dX8_layCode_73 : decode cX8_layCode 73 = .ok (.goto (-64), 3) := by decide +kernel
theorem dX8_layCode_76 : decode cX8_layCode 76 = .ok (.return_, 1) := by decide +kernel
theorem dX8_layBest_0 : decode cX8_layBest 0 = .ok (.aload_n 0, 1) := by decide +kernel
theorem dX8_layBest_1 : decode cX8_layBest 1 = .ok (.iload_n 1, 1) := by decide +kernel
theorem dX8_layBest_2 : decode cX8_layBest 2 = .ok (.invokevirtual 108, 3) := by decide +kernel
theorem dX8_layBest_5 : decode cX8_layBest 5 = .ok (.istore_n 2, 1) := by decide +kernel
theorem dX8_layBest_6 : decode cX8_layBest 6 = .ok (.aload_n 0, 1) := by decide +kernel
theorem dX8_layBest_7 : decode cX8_layBest 7 = .ok (.getfield 16, 3) := by decide +kernel
theorem dX8_layBest_10 : decode cX8_layBest 10 = .ok (.iload_n 1, 1) := by decide +kernel
theorem dX8_layBest_11 : decode cX8_layBest 11 = .ok (.baload, 1) := by decide +kernel
theorem dX8_layBest_12 : decode cX8_layBest 12 = .ok (.istore_n 3, 1) := by decide +kernel
theorem dX8_layBest_13 : decode cX8_layBest 13 = .ok (.iconst 0, 1) := by decide +kernel
theorem dX8_layBest_14 : decode cX8_layBest 14 = .ok (.istore 4, 2) := by decide +kernel
theorem dX8_layBest_16 : decode cX8_layBest 16 = .ok (.iload 4, 2) := by decide +kernel
theorem dX8_layBest_18 : decode cX8_layBest 18 = .ok (.aload_n 0, 1) := by decide +kernel
theorem dX8_layBest_19 : decode cX8_layBest 19 = .ok (.getfield 98, 3) := by decide +kernel
theorem dX8_layBest_22 : decode cX8_layBest 22 = .ok (.if_icmp .ge 37, 3) := by decide +kernel
theorem dX8_layBest_25 : decode cX8_layBest 25 = .ok (.aload_n 0, 1) := by decide +kernel
theorem dX8_layBest_26 : decode cX8_layBest 26 = .ok (.getfield 64, 3) := by decide +kernel
theorem dX8_layBest_29 : decode cX8_layBest 29 = .ok (.iload 4, 2) := by decide +kernel
theorem dX8_layBest_31 : decode cX8_layBest 31 = .ok (.aload_n 0, 1) := by decide +kernel
theorem dX8_layBest_32 : decode cX8_layBest 32 = .ok (.getfield 29, 3) := by decide +kernel
theorem dX8_layBest_35 : decode cX8_layBest 35 = .ok (.iload 4, 2) := by decide +kernel
theorem dX8_layBest_37 : decode cX8_layBest 37 = .ok (.iaload, 1) := by decide +kernel
theorem dX8_layBest_38 : decode cX8_layBest 38 = .ok (.iastore, 1) := by decide +kernel
theorem dX8_layBest_39 : decode cX8_layBest 39 = .ok (.aload_n 0, 1) := by decide +kernel
theorem dX8_layBest_40 : decode cX8_layBest 40 = .ok (.getfield 61, 3) := by decide +kernel
theorem dX8_layBest_43 : decode cX8_layBest 43 = .ok (.iload 4, 2) := by decide +kernel
theorem dX8_layBest_45 : decode cX8_layBest 45 = .ok (.aload_n 0, 1) := by decide +kernel
theorem dX8_layBest_46 : decode cX8_layBest 46 = .ok (.getfield 29, 3) := by decide +kernel
theorem dX8_layBest_49 : decode cX8_layBest 49 = .ok (.iload 4, 2) := by decide +kernel
theorem dX8_layBest_51 : decode cX8_layBest 51 = .ok (.iaload, 1) := by decide +kernel
theorem dX8_layBest_52 : decode cX8_layBest 52 = .ok (.iastore, 1) := by decide +kernel
theorem dX8_layBest_53 : decode cX8_layBest 53 = .ok (.iinc 4 1, 3) := by decide +kernel
theorem dX8_layBest_56 : decode cX8_layBest 56 = .ok (.goto (-40), 3) := by decide +kernel
theorem dX8_layBest_59 : decode cX8_layBest 59 = .ok (.aload_n 0, 1) := by decide +kernel
theorem dX8_layBest_60 : decode cX8_layBest 60 = .ok (.getfield 16, 3) := by decide +kernel
theorem dX8_layBest_63 : decode cX8_layBest 63 = .ok (.iload_n 1, 1) := by decide +kernel
theorem dX8_layBest_64 : decode cX8_layBest 64 = .ok (.iconst 1, 1) := by decide +kernel
theorem dX8_layBest_65 : decode cX8_layBest 65 = .ok (.bastore, 1) := by decide +kernel
theorem dX8_layBest_66 : decode cX8_layBest 66 = .ok (.iconst 1, 1) := by decide +kernel
theorem dX8_layBest_67 : decode cX8_layBest 67 = .ok (.istore 4, 2) := by decide +kernel
theorem dX8_layBest_69 : decode cX8_layBest 69 = .ok (.aload_n 0, 1) := by decide +kernel
theorem dX8_layBest_70 : decode cX8_layBest 70 = .ok (.getfield 7, 3) := by decide +kernel
theorem dX8_layBest_73 : decode cX8_layBest 73 = .ok (.iload_n 1, 1) := by decide +kernel
theorem dX8_layBest_74 : decode cX8_layBest 74 = .ok (.iaload, 1) := by decide +kernel
theorem dX8_layBest_75 : decode cX8_layBest 75 = .ok (.iconst 1, 1) := by decide +kernel
theorem dX8_layBest_76 : decode cX8_layBest 76 = .ok (.if_icmp .eq 13, 3) := by decide +kernel
theorem dX8_layBest_79 : decode cX8_layBest 79 = .ok (.aload_n 0, 1) := by decide +kernel
theorem dX8_layBest_80 : decode cX8_layBest 80 = .ok (.getfield 7, 3) := by decide +kernel
theorem dX8_layBest_83 : decode cX8_layBest 83 = .ok (.iload_n 1, 1) := by decide +kernel
theorem dX8_layBest_84 : decode cX8_layBest 84 = .ok (.iaload, 1) := by decide +kernel
theorem dX8_layBest_85 : decode cX8_layBest 85 = .ok (.iconst 4, 1) := by decide +kernel
theorem dX8_layBest_86 : decode cX8_layBest 86 = .ok (.if_icmp .ne 7, 3) := by decide +kernel
theorem dX8_layBest_89 : decode cX8_layBest 89 = .ok (.iconst 1, 1) := by decide +kernel
theorem dX8_layBest_90 : decode cX8_layBest 90 = .ok (.goto 4, 3) := by decide +kernel
theorem dX8_layBest_93 : decode cX8_layBest 93 = .ok (.iconst 0, 1) := by decide +kernel
theorem dX8_layBest_94 : decode cX8_layBest 94 = .ok (.istore 5, 2) := by decide +kernel
theorem dX8_layBest_96 : decode cX8_layBest 96 = .ok (.iconst 0, 1) := by decide +kernel
theorem dX8_layBest_97 : decode cX8_layBest 97 = .ok (.istore 6, 2) := by decide +kernel
theorem dX8_layBest_99 : decode cX8_layBest 99 = .ok (.iload 6, 2) := by decide +kernel
theorem dX8_layBest_101 : decode cX8_layBest 101 = .ok (.iload_n 2, 1) := by decide +kernel
theorem dX8_layBest_102 : decode cX8_layBest 102 = .ok (.if_icmp .ge 40, 3) := by decide +kernel
theorem dX8_layBest_105 : decode cX8_layBest 105 = .ok (.aload_n 0, 1) := by decide +kernel
theorem dX8_layBest_106 : decode cX8_layBest 106 = .ok (.getfield 7, 3) := by decide +kernel
theorem dX8_layBest_109 : decode cX8_layBest 109 = .ok (.iload_n 1, 1) := by decide +kernel
theorem dX8_layBest_110 : decode cX8_layBest 110 = .ok (.iaload, 1) := by decide +kernel
theorem dX8_layBest_111 : decode cX8_layBest 111 = .ok (.iconst 2, 1) := by decide +kernel
theorem dX8_layBest_112 : decode cX8_layBest 112 = .ok (.if_icmp .eq 30, 3) := by decide +kernel
theorem dX8_layBest_115 : decode cX8_layBest 115 = .ok (.iload 4, 2) := by decide +kernel
theorem dX8_layBest_117 : decode cX8_layBest 117 = .ok (.iload 5, 2) := by decide +kernel
theorem dX8_layBest_119 : decode cX8_layBest 119 = .ok (.ifCond .eq 12, 3) := by decide +kernel
theorem dX8_layBest_122 : decode cX8_layBest 122 = .ok (.iload 6, 2) := by decide +kernel
theorem dX8_layBest_124 : decode cX8_layBest 124 = .ok (.ifCond .le 7, 3) := by decide +kernel
theorem dX8_layBest_127 : decode cX8_layBest 127 = .ok (.iconst 1, 1) := by decide +kernel
theorem dX8_layBest_128 : decode cX8_layBest 128 = .ok (.goto 5, 3) := by decide +kernel
theorem dX8_layBest_131 : decode cX8_layBest 131 = .ok (.bipush 10, 2) := by decide +kernel
theorem dX8_layBest_133 : decode cX8_layBest 133 = .ok (.imul, 1) := by decide +kernel
theorem dX8_layBest_134 : decode cX8_layBest 134 = .ok (.istore 4, 2) := by decide +kernel
theorem dX8_layBest_136 : decode cX8_layBest 136 = .ok (.iinc 6 1, 3) := by decide +kernel
theorem dX8_layBest_139 : decode cX8_layBest 139 = .ok (.goto (-40), 3) := by decide +kernel
theorem dX8_layBest_142 : decode cX8_layBest 142 = .ok (.iconst 0, 1) := by decide +kernel
theorem dX8_layBest_143 : decode cX8_layBest 143 = .ok (.istore 6, 2) := by decide +kernel
theorem dX8_layBest_145 : decode cX8_layBest 145 = .ok (.iload 6, 2) := by decide +kernel
theorem dX8_layBest_147 : decode cX8_layBest 147 = .ok (.iload 4, 2) := by decide +kernel
theorem dX8_layBest_149 : decode cX8_layBest 149 = .ok (.if_icmp .ge 89, 3) := by decide +kernel
theorem dX8_layBest_152 : decode cX8_layBest 152 = .ok (.aload_n 0, 1) := by decide +kernel
theorem dX8_layBest_153 : decode cX8_layBest 153 = .ok (.getfield 7, 3) := by decide +kernel
theorem dX8_layBest_156 : decode cX8_layBest 156 = .ok (.iload_n 1, 1) := by decide +kernel
theorem dX8_layBest_157 : decode cX8_layBest 157 = .ok (.iaload, 1) := by decide +kernel
theorem dX8_layBest_158 : decode cX8_layBest 158 = .ok (.iconst 2, 1) := by decide +kernel
theorem dX8_layBest_159 : decode cX8_layBest 159 = .ok (.if_icmp .eq 14, 3) := by decide +kernel
theorem dX8_layBest_162 : decode cX8_layBest 162 = .ok (.aload_n 0, 1) := by decide +kernel
theorem dX8_layBest_163 : decode cX8_layBest 163 = .ok (.iload_n 1, 1) := by decide +kernel
theorem dX8_layBest_164 : decode cX8_layBest 164 = .ok (.iload 6, 2) := by decide +kernel
theorem dX8_layBest_166 : decode cX8_layBest 166 = .ok (.iload 4, 2) := by decide +kernel
theorem dX8_layBest_168 : decode cX8_layBest 168 = .ok (.iload 5, 2) := by decide +kernel
theorem dX8_layBest_170 : decode cX8_layBest 170 = .ok (.invokevirtual 148, 3) := by decide +kernel
theorem dX8_layBest_173 : decode cX8_layBest 173 = .ok (.aload_n 0, 1) := by decide +kernel
theorem dX8_layBest_174 : decode cX8_layBest 174 = .ok (.iload_n 1, 1) := by decide +kernel
theorem dX8_layBest_175 : decode cX8_layBest 175 = .ok (.invokevirtual 144, 3) := by decide +kernel
theorem dX8_layBest_178 : decode cX8_layBest 178 = .ok (.istore 7, 2) := by decide +kernel
theorem dX8_layBest_180 : decode cX8_layBest 180 = .ok (.iload 6, 2) := by decide +kernel
theorem dX8_layBest_182 : decode cX8_layBest 182 = .ok (.ifCond .eq 12, 3) := by decide +kernel
theorem dX8_layBest_185 : decode cX8_layBest 185 = .ok (.iload 7, 2) := by decide +kernel
theorem dX8_layBest_187 : decode cX8_layBest 187 = .ok (.aload_n 0, 1) := by decide +kernel
theorem dX8_layBest_188 : decode cX8_layBest 188 = .ok (.getfield 152, 3) := by decide +kernel
theorem dX8_layBest_191 : decode cX8_layBest 191 = .ok (.if_icmp .le 41, 3) := by decide +kernel
theorem dX8_layBest_194 : decode cX8_layBest 194 = .ok (.aload_n 0, 1) := by decide +kernel
theorem dX8_layBest_195 : decode cX8_layBest 195 = .ok (.iload 7, 2) := by decide +kernel
theorem dX8_layBest_197 : decode cX8_layBest 197 = .ok (.putfield 152, 3) := by decide +kernel
theorem dX8_layBest_200 : decode cX8_layBest 200 = .ok (.iconst 0, 1) := by decide +kernel
theorem dX8_layBest_201 : decode cX8_layBest 201 = .ok (.istore 8, 2) := by decide +kernel
theorem dX8_layBest_203 : decode cX8_layBest 203 = .ok (.iload 8, 2) := by decide +kernel
theorem dX8_layBest_205 : decode cX8_layBest 205 = .ok (.aload_n 0, 1) := by decide +kernel
theorem dX8_layBest_206 : decode cX8_layBest 206 = .ok (.getfield 98, 3) := by decide +kernel
theorem dX8_layBest_209 : decode cX8_layBest 209 = .ok (.if_icmp .ge 23, 3) := by decide +kernel
theorem dX8_layBest_212 : decode cX8_layBest 212 = .ok (.aload_n 0, 1) := by decide +kernel
theorem dX8_layBest_213 : decode cX8_layBest 213 = .ok (.getfield 61, 3) := by decide +kernel
theorem dX8_layBest_216 : decode cX8_layBest 216 = .ok (.iload 8, 2) := by decide +kernel
theorem dX8_layBest_218 : decode cX8_layBest 218 = .ok (.aload_n 0, 1) := by decide +kernel
theorem dX8_layBest_219 : decode cX8_layBest 219 = .ok (.getfield 29, 3) := by decide +kernel
theorem dX8_layBest_222 : decode cX8_layBest 222 = .ok (.iload 8, 2) := by decide +kernel
theorem dX8_layBest_224 : decode cX8_layBest 224 = .ok (.iaload, 1) := by decide +kernel
theorem dX8_layBest_225 : decode cX8_layBest 225 = .ok (.iastore, 1) := by decide +kernel
theorem dX8_layBest_226 : decode cX8_layBest 226 = .ok (.iinc 8 1, 3) := by decide +kernel
theorem dX8_layBest_229 : decode cX8_layBest 229 = .ok (.goto (-26), 3) := by decide +kernel
theorem dX8_layBest_232 : decode cX8_layBest 232 = .ok (.iinc 6 1, 3) := by decide +kernel
theorem dX8_layBest_235 : decode cX8_layBest 235 = .ok (.goto (-90), 3) := by decide +kernel
theorem dX8_layBest_238 : decode cX8_layBest 238 = .ok (.aload_n 0, 1) := by decide +kernel
theorem dX8_layBest_239 : decode cX8_layBest 239 = .ok (.aload_n 0, 1) := by decide +kernel
theorem dX8_layBest_240 : decode cX8_layBest 240 = .ok (.getfield 7, 3) := by decide +kernel
theorem dX8_layBest_243 : decode cX8_layBest 243 = .ok (.iload_n 1, 1) := by decide +kernel
theorem dX8_layBest_244 : decode cX8_layBest 244 = .ok (.iaload, 1) := by decide +kernel
theorem dX8_layBest_245 : decode cX8_layBest 245 = .ok (.iconst 4, 1) := by decide +kernel
theorem dX8_layBest_246 : decode cX8_layBest 246 = .ok (.if_icmp .ne 20, 3) := by decide +kernel
theorem dX8_layBest_249 : decode cX8_layBest 249 = .ok (.aload_n 0, 1) := by decide +kernel
theorem dX8_layBest_250 : decode cX8_layBest 250 = .ok (.getfield 152, 3) := by decide +kernel
theorem dX8_layBest_253 : decode cX8_layBest 253 = .ok (.aload_n 0, 1) := by decide +kernel
theorem dX8_layBest_254 : decode cX8_layBest 254 = .ok (.getfield 13, 3) := by decide +kernel
theorem dX8_layBest_257 : decode cX8_layBest 257 = .ok (.iload_n 1, 1) := by decide +kernel
theorem dX8_layBest_258 : decode cX8_layBest 258 = .ok (.iaload, 1) := by decide +kernel
theorem dX8_layBest_259 : decode cX8_layBest 259 = .ok (.if_icmp .le 7, 3) := by decide +kernel
theorem dX8_layBest_262 : decode cX8_layBest 262 = .ok (.iconst 1, 1) := by decide +kernel
theorem dX8_layBest_263 : decode cX8_layBest 263 = .ok (.goto 4, 3) := by decide +kernel
theorem dX8_layBest_266 : decode cX8_layBest 266 = .ok (.iconst 0, 1) := by decide +kernel
theorem dX8_layBest_267 : decode cX8_layBest 267 = .ok (.putfield 155, 3) := by decide +kernel
theorem dX8_layBest_270 : decode cX8_layBest 270 = .ok (.iconst 0, 1) := by decide +kernel
theorem dX8_layBest_271 : decode cX8_layBest 271 = .ok (.istore 6, 2) := by decide +kernel
theorem dX8_layBest_273 : decode cX8_layBest 273 = .ok (.iload 6, 2) := by decide +kernel
theorem dX8_layBest_275 : decode cX8_layBest 275 = .ok (.aload_n 0, 1) := by decide +kernel
theorem dX8_layBest_276 : decode cX8_layBest 276 = .ok (.getfield 98, 3) := by decide +kernel
theorem dX8_layBest_279 : decode cX8_layBest 279 = .ok (.if_icmp .ge 64, 3) := by decide +kernel
theorem dX8_layBest_282 : decode cX8_layBest 282 = .ok (.aload_n 0, 1) := by decide +kernel
theorem dX8_layBest_283 : decode cX8_layBest 283 = .ok (.getfield 29, 3) := by decide +kernel
theorem dX8_layBest_286 : decode cX8_layBest 286 = .ok (.iload 6, 2) := by decide +kernel
theorem dX8_layBest_288 : decode cX8_layBest 288 = .ok (.aload_n 0, 1) := by decide +kernel
theorem dX8_layBest_289 : decode cX8_layBest 289 = .ok (.getfield 64, 3) := by decide +kernel
theorem dX8_layBest_292 : decode cX8_layBest 292 = .ok (.iload 6, 2) := by decide +kernel
theorem dX8_layBest_294 : decode cX8_layBest 294 = .ok (.iaload, 1) := by decide +kernel
theorem dX8_layBest_295 : decode cX8_layBest 295 = .ok (.iastore, 1) := by decide +kernel
theorem dX8_layBest_296 : decode cX8_layBest 296 = .ok (.aload_n 0, 1) := by decide +kernel
theorem dX8_layBest_297 : decode cX8_layBest 297 = .ok (.getfield 61, 3) := by decide +kernel
theorem dX8_layBest_300 : decode cX8_layBest 300 = .ok (.iload 6, 2) := by decide +kernel
theorem dX8_layBest_302 : decode cX8_layBest 302 = .ok (.aload_n 0, 1) := by decide +kernel
theorem dX8_layBest_303 : decode cX8_layBest 303 = .ok (.getfield 7, 3) := by decide +kernel
theorem dX8_layBest_306 : decode cX8_layBest 306 = .ok (.iload_n 1, 1) := by decide +kernel
theorem dX8_layBest_307 : decode cX8_layBest 307 = .ok (.iaload, 1) := by decide +kernel
theorem dX8_layBest_308 : decode cX8_layBest 308 = .ok (.iconst 4, 1) := by decide +kernel
theorem dX8_layBest_309 : decode cX8_layBest 309 = .ok (.if_icmp .ne 20, 3) := by decide +kernel
theorem dX8_layBest_312 : decode cX8_layBest 312 = .ok (.aload_n 0, 1) := by decide +kernel
theorem dX8_layBest_313 : decode cX8_layBest 313 = .ok (.getfield 155, 3) := by decide +kernel
theorem dX8_layBest_316 : decode cX8_layBest 316 = .ok (.ifCond .ne 13, 3) := by decide +kernel
theorem dX8_layBest_319 : decode cX8_layBest 319 = .ok (.aload_n 0, 1) := by decide +kernel
theorem dX8_layBest_320 : decode cX8_layBest 320 = .ok (.getfield 64, 3) := by decide +kernel
theorem dX8_layBest_323 : decode cX8_layBest 323 = .ok (.iload 6, 2) := by decide +kernel
theorem dX8_layBest_325 : decode cX8_layBest 325 = .ok (.iaload, 1) := by decide +kernel
theorem dX8_layBest_326 : decode cX8_layBest 326 = .ok (.goto 10, 3) := by decide +kernel
theorem dX8_layBest_329 : decode cX8_layBest 329 = .ok (.aload_n 0, 1) := by decide +kernel
theorem dX8_layBest_330 : decode cX8_layBest 330 = .ok (.getfield 61, 3) := by decide +kernel
theorem dX8_layBest_333 : decode cX8_layBest 333 = .ok (.iload 6, 2) := by decide +kernel
theorem dX8_layBest_335 : decode cX8_layBest 335 = .ok (.iaload, 1) := by decide +kernel
theorem dX8_layBest_336 : decode cX8_layBest 336 = .ok (.iastore, 1) := by decide +kernel
theorem dX8_layBest_337 : decode cX8_layBest 337 = .ok (.iinc 6 1, 3) := by decide +kernel
theorem dX8_layBest_340 : decode cX8_layBest 340 = .ok (.goto (-67), 3) := by decide +kernel
theorem dX8_layBest_343 : decode cX8_layBest 343 = .ok (.aload_n 0, 1) := by decide +kernel
theorem dX8_layBest_344 : decode cX8_layBest 344 = .ok (.aload_n 0, 1) := by decide +kernel
theorem dX8_layBest_345 : decode cX8_layBest 345 = .ok (.getfield 7, 3) := by decide +kernel
theorem dX8_layBest_348 : decode cX8_layBest 348 = .ok (.iload_n 1, 1) := by decide +kernel
theorem dX8_layBest_349 : decode cX8_layBest 349 = .ok (.iaload, 1) := by decide +kernel
theorem dX8_layBest_350 : decode cX8_layBest 350 = .ok (.iconst 4, 1) := by decide +kernel
theorem dX8_layBest_351 : decode cX8_layBest 351 = .ok (.if_icmp .ne 14, 3) := by decide +kernel
theorem dX8_layBest_354 : decode cX8_layBest 354 = .ok (.aload_n 0, 1) := by decide +kernel
theorem dX8_layBest_355 : decode cX8_layBest 355 = .ok (.getfield 155, 3) := by decide +kernel
theorem dX8_layBest_358 : decode cX8_layBest 358 = .ok (.ifCond .ne 7, 3) := by decide +kernel
theorem dX8_layBest_361 : decode cX8_layBest 361 = .ok (.iconst 0, 1) := by decide +kernel
theorem dX8_layBest_362 : decode cX8_layBest 362 = .ok (.goto 7, 3) := by decide +kernel
theorem dX8_layBest_365 : decode cX8_layBest 365 = .ok (.aload_n 0, 1) := by decide +kernel
theorem dX8_layBest_366 : decode cX8_layBest 366 = .ok (.getfield 152, 3) := by decide +kernel
theorem dX8_layBest_369 : decode cX8_layBest 369 = .ok (.putfield 152, 3) := by decide +kernel
theorem dX8_layBest_372 : decode cX8_layBest 372 = .ok (.aload_n 0, 1) := by decide +kernel
theorem dX8_layBest_373 : decode cX8_layBest 373 = .ok (.getfield 16, 3) := by decide +kernel
theorem dX8_layBest_376 : decode cX8_layBest 376 = .ok (.iload_n 1, 1) := by decide +kernel
theorem dX8_layBest_377 : decode cX8_layBest 377 = .ok (.iload_n 3, 1) := by decide +kernel
theorem dX8_layBest_378 : decode cX8_layBest 378 = .ok (.bastore, 1) := by decide +kernel
theorem dX8_layBest_379 : decode cX8_layBest 379 = .ok (.return_, 1) := by decide +kernel
theorem dX8_best_0 : decode cX8_best 0 = .ok (.aload_n 0, 1) := by decide +kernel
theorem dX8_best_1 : decode cX8_best 1 = .ok (.iload_n 1, 1) := by decide +kernel
theorem dX8_best_2 : decode cX8_best 2 = .ok (.invokevirtual 132, 3) := by decide +kernel
theorem dX8_best_5 : decode cX8_best 5 = .ok (.ifCond .ne 6, 3) := by decide +kernel
theorem dX8_best_8 : decode cX8_best 8 = .ok (.bipush (-101), 2) := by decide +kernel
theorem dX8_best_10 : decode cX8_best 10 = .ok (.ireturn, 1) := by decide +kernel
theorem dX8_best_11 : decode cX8_best 11 = .ok (.iload_n 2, 1) := by decide +kernel
theorem dX8_best_12 : decode cX8_best 12 = .ok (.iconst 0, 1) := by decide +kernel
theorem dX8_best_13 : decode cX8_best 13 = .ok (.iconst 1, 1) := by decide +kernel
theorem dX8_best_14 : decode cX8_best 14 = .ok (.invokestatic 94, 3) := by decide +kernel
theorem dX8_best_17 : decode cX8_best 17 = .ok (.ifCond .ne 6, 3) := by decide +kernel
theorem dX8_best_20 : decode cX8_best 20 = .ok (.bipush (-102), 2) := by decide +kernel
theorem dX8_best_22 : decode cX8_best 22 = .ok (.ireturn, 1) := by decide +kernel
theorem dX8_best_23 : decode cX8_best 23 = .ok (.aload_n 0, 1) := by decide +kernel
theorem dX8_best_24 : decode cX8_best 24 = .ok (.getfield 20, 3) := by decide +kernel
theorem dX8_best_27 : decode cX8_best 27 = .ok (.iload_n 1, 1) := by decide +kernel
theorem dX8_best_28 : decode cX8_best 28 = .ok (.iaload, 1) := by decide +kernel
theorem dX8_best_29 : decode cX8_best 29 = .ok (.istore_n 3, 1) := by decide +kernel
theorem dX8_best_30 : decode cX8_best 30 = .ok (.aload_n 0, 1) := by decide +kernel
theorem dX8_best_31 : decode cX8_best 31 = .ok (.iload_n 3, 1) := by decide +kernel
theorem dX8_best_32 : decode cX8_best 32 = .ok (.invokevirtual 159, 3) := by decide +kernel
theorem dX8_best_35 : decode cX8_best 35 = .ok (.iload_n 2, 1) := by decide +kernel
theorem dX8_best_36 : decode cX8_best 36 = .ok (.ifCond .ne 12, 3) := by decide +kernel
theorem dX8_best_39 : decode cX8_best 39 = .ok (.aload_n 0, 1) := by decide +kernel
theorem dX8_best_40 : decode cX8_best 40 = .ok (.getfield 61, 3) := by decide +kernel
theorem dX8_best_43 : decode cX8_best 43 = .ok (.iload_n 1, 1) := by decide +kernel
theorem dX8_best_44 : decode cX8_best 44 = .ok (.iaload, 1) := by decide +kernel
theorem dX8_best_45 : decode cX8_best 45 = .ok (.goto 25, 3) := by decide +kernel
theorem dX8_best_48 : decode cX8_best 48 = .ok (.aload_n 0, 1) := by decide +kernel
theorem dX8_best_49 : decode cX8_best 49 = .ok (.getfield 7, 3) := by decide +kernel
theorem dX8_best_52 : decode cX8_best 52 = .ok (.iload_n 3, 1) := by decide +kernel
theorem dX8_best_53 : decode cX8_best 53 = .ok (.iaload, 1) := by decide +kernel
theorem dX8_best_54 : decode cX8_best 54 = .ok (.iconst 4, 1) := by decide +kernel
theorem dX8_best_55 : decode cX8_best 55 = .ok (.if_icmp .ne 10, 3) := by decide +kernel
theorem dX8_best_58 : decode cX8_best 58 = .ok (.aload_n 0, 1) := by decide +kernel
theorem dX8_best_59 : decode cX8_best 59 = .ok (.getfield 155, 3) := by decide +kernel
theorem dX8_best_62 : decode cX8_best 62 = .ok (.ifCond .eq 7, 3) := by decide +kernel
theorem dX8_best_65 : decode cX8_best 65 = .ok (.iconst 1, 1) := by decide +kernel
theorem dX8_best_66 : decode cX8_best 66 = .ok (.goto 4, 3) := by decide +kernel
theorem dX8_best_69 : decode cX8_best 69 = .ok (.iconst 0, 1) := by decide +kernel
theorem dX8_best_70 : decode cX8_best 70 = .ok (.ireturn, 1) := by decide +kernel
theorem dX8_turnOf_0 : decode cX8_turnOf 0 = .ok (.aload_n 0, 1) := by decide +kernel
theorem dX8_turnOf_1 : decode cX8_turnOf 1 = .ok (.iload_n 1, 1) := by decide +kernel
theorem dX8_turnOf_2 : decode cX8_turnOf 2 = .ok (.invokevirtual 159, 3) := by decide +kernel
theorem dX8_turnOf_5 : decode cX8_turnOf 5 = .ok (.iconst 0, 1) := by decide +kernel
theorem dX8_turnOf_6 : decode cX8_turnOf 6 = .ok (.istore_n 2, 1) := by decide +kernel
theorem dX8_turnOf_7 : decode cX8_turnOf 7 = .ok (.iconst 0, 1) := by decide +kernel
theorem dX8_turnOf_8 : decode cX8_turnOf 8 = .ok (.istore_n 3, 1) := by decide +kernel
theorem dX8_turnOf_9 : decode cX8_turnOf 9 = .ok (.iload_n 3, 1) := by decide +kernel
theorem dX8_turnOf_10 : decode cX8_turnOf 10 = .ok (.aload_n 0, 1) := by decide +kernel
theorem dX8_turnOf_11 : decode cX8_turnOf 11 = .ok (.getfield 98, 3) := by decide +kernel
theorem dX8_turnOf_14 : decode cX8_turnOf 14 = .ok (.if_icmp .ge 44, 3) := by decide +kernel
theorem dX8_turnOf_17 : decode cX8_turnOf 17 = .ok (.iload_n 2, 1) := by decide +kernel
theorem dX8_turnOf_18 : decode cX8_turnOf 18 = .ok (.aload_n 0, 1) := by decide +kernel
theorem dX8_turnOf_19 : decode cX8_turnOf 19 = .ok (.getfield 29, 3) := by decide +kernel
theorem dX8_turnOf_22 : decode cX8_turnOf 22 = .ok (.iload_n 3, 1) := by decide +kernel
theorem dX8_turnOf_23 : decode cX8_turnOf 23 = .ok (.iaload, 1) := by decide +kernel
theorem dX8_turnOf_24 : decode cX8_turnOf 24 = .ok (.aload_n 0, 1) := by decide +kernel
theorem dX8_turnOf_25 : decode cX8_turnOf 25 = .ok (.getfield 61, 3) := by decide +kernel
theorem dX8_turnOf_28 : decode cX8_turnOf 28 = .ok (.iload_n 3, 1) := by decide +kernel
theorem dX8_turnOf_29 : decode cX8_turnOf 29 = .ok (.iaload, 1) := by decide +kernel
theorem dX8_turnOf_30 : decode cX8_turnOf 30 = .ok (.if_icmp .ne 7, 3) := by decide +kernel
theorem dX8_turnOf_33 : decode cX8_turnOf 33 = .ok (.iconst 0, 1) := by decide +kernel
theorem dX8_turnOf_34 : decode cX8_turnOf 34 = .ok (.goto 4, 3) := by decide +kernel
theorem dX8_turnOf_37 : decode cX8_turnOf 37 = .ok (.iconst 1, 1) := by decide +kernel
theorem dX8_turnOf_38 : decode cX8_turnOf 38 = .ok (.iadd, 1) := by decide +kernel
theorem dX8_turnOf_39 : decode cX8_turnOf 39 = .ok (.istore_n 2, 1) := by decide +kernel
theorem dX8_turnOf_40 : decode cX8_turnOf 40 = .ok (.aload_n 0, 1) := by decide +kernel
theorem dX8_turnOf_41 : decode cX8_turnOf 41 = .ok (.getfield 29, 3) := by decide +kernel
theorem dX8_turnOf_44 : decode cX8_turnOf 44 = .ok (.iload_n 3, 1) := by decide +kernel
theorem dX8_turnOf_45 : decode cX8_turnOf 45 = .ok (.aload_n 0, 1) := by decide +kernel
theorem dX8_turnOf_46 : decode cX8_turnOf 46 = .ok (.getfield 61, 3) := by decide +kernel
theorem dX8_turnOf_49 : decode cX8_turnOf 49 = .ok (.iload_n 3, 1) := by decide +kernel
theorem dX8_turnOf_50 : decode cX8_turnOf 50 = .ok (.iaload, 1) := by decide +kernel
theorem dX8_turnOf_51 : decode cX8_turnOf 51 = .ok (.iastore, 1) := by decide +kernel
theorem dX8_turnOf_52 : decode cX8_turnOf 52 = .ok (.iinc 3 1, 3) := by decide +kernel
theorem dX8_turnOf_55 : decode cX8_turnOf 55 = .ok (.goto (-46), 3) := by decide +kernel
theorem dX8_turnOf_58 : decode cX8_turnOf 58 = .ok (.iload_n 2, 1) := by decide +kernel
theorem dX8_turnOf_59 : decode cX8_turnOf 59 = .ok (.aload_n 0, 1) := by decide +kernel
theorem dX8_turnOf_60 : decode cX8_turnOf 60 = .ok (.getfield 7, 3) := by decide +kernel
theorem dX8_turnOf_63 : decode cX8_turnOf 63 = .ok (.iload_n 1, 1) := by decide +kernel
theorem dX8_turnOf_64 : decode cX8_turnOf 64 = .ok (.iaload, 1) := by decide +kernel
theorem dX8_turnOf_65 : decode cX8_turnOf 65 = .ok (.iconst 4, 1) := by decide +kernel
theorem dX8_turnOf_66 : decode cX8_turnOf 66 = .ok (.if_icmp .ne 20, 3) := by decide +kernel
theorem dX8_turnOf_69 : decode cX8_turnOf 69 = .ok (.aload_n 0, 1) := by decide +kernel
theorem dX8_turnOf_70 : decode cX8_turnOf 70 = .ok (.getfield 16, 3) := by decide +kernel
theorem dX8_turnOf_73 : decode cX8_turnOf 73 = .ok (.iload_n 1, 1) := by decide +kernel
theorem dX8_turnOf_74 : decode cX8_turnOf 74 = .ok (.baload, 1) := by decide +kernel
theorem dX8_turnOf_75 : decode cX8_turnOf 75 = .ok (.aload_n 0, 1) := by decide +kernel
theorem dX8_turnOf_76 : decode cX8_turnOf 76 = .ok (.getfield 155, 3) := by decide +kernel
theorem dX8_turnOf_79 : decode cX8_turnOf 79 = .ok (.if_icmp .eq 7, 3) := by decide +kernel
theorem dX8_turnOf_82 : decode cX8_turnOf 82 = .ok (.iconst 1, 1) := by decide +kernel
theorem dX8_turnOf_83 : decode cX8_turnOf 83 = .ok (.goto 4, 3) := by decide +kernel
theorem dX8_turnOf_86 : decode cX8_turnOf 86 = .ok (.iconst 0, 1) := by decide +kernel
theorem dX8_turnOf_87 : decode cX8_turnOf 87 = .ok (.iadd, 1) := by decide +kernel
theorem dX8_turnOf_88 : decode cX8_turnOf 88 = .ok (.istore_n 2, 1) := by decide +kernel
theorem dX8_turnOf_89 : decode cX8_turnOf 89 = .ok (.aload_n 0, 1) := by decide +kernel
theorem dX8_turnOf_90 : decode cX8_turnOf 90 = .ok (.getfield 16, 3) := by decide +kernel
theorem dX8_turnOf_93 : decode cX8_turnOf 93 = .ok (.iload_n 1, 1) := by decide +kernel
theorem dX8_turnOf_94 : decode cX8_turnOf 94 = .ok (.aload_n 0, 1) := by decide +kernel
theorem dX8_turnOf_95 : decode cX8_turnOf 95 = .ok (.getfield 7, 3) := by decide +kernel
theorem dX8_turnOf_98 : decode cX8_turnOf 98 = .ok (.iload_n 1, 1) := by decide +kernel
theorem dX8_turnOf_99 : decode cX8_turnOf 99 = .ok (.iaload, 1) := by decide +kernel
theorem dX8_turnOf_100 : decode cX8_turnOf 100 = .ok (.iconst 4, 1) := by decide +kernel
theorem dX8_turnOf_101 : decode cX8_turnOf 101 = .ok (.if_icmp .ne 14, 3) := by decide +kernel
theorem dX8_turnOf_104 : decode cX8_turnOf 104 = .ok (.aload_n 0, 1) := by decide +kernel
theorem dX8_turnOf_105 : decode cX8_turnOf 105 = .ok (.getfield 155, 3) := by decide +kernel
theorem dX8_turnOf_108 : decode cX8_turnOf 108 = .ok (.ifCond .eq 7, 3) := by decide +kernel
theorem dX8_turnOf_111 : decode cX8_turnOf 111 = .ok (.iconst 1, 1) := by decide +kernel
theorem dX8_turnOf_112 : decode cX8_turnOf 112 = .ok (.goto 4, 3) := by decide +kernel
theorem dX8_turnOf_115 : decode cX8_turnOf 115 = .ok (.iconst 0, 1) := by decide +kernel
theorem dX8_turnOf_116 : decode cX8_turnOf 116 = .ok (.bastore, 1) := by decide +kernel
theorem dX8_turnOf_117 : decode cX8_turnOf 117 = .ok (.iload_n 2, 1) := by decide +kernel
theorem dX8_turnOf_118 : decode cX8_turnOf 118 = .ok (.ireturn, 1) := by decide +kernel
theorem dX8_turn_0 : decode cX8_turn 0 = .ok (.aload_n 0, 1) := by decide +kernel
theorem dX8_turn_1 : decode cX8_turn 1 = .ok (.iload_n 1, 1) := by decide +kernel
theorem dX8_turn_2 : decode cX8_turn 2 = .ok (.invokevirtual 104, 3) := by decide +kernel
theorem dX8_turn_5 : decode cX8_turn 5 = .ok (.ifCond .eq 11, 3) := by decide +kernel
theorem dX8_turn_8 : decode cX8_turn 8 = .ok (.aload_n 0, 1) := by decide +kernel
theorem dX8_turn_9 : decode cX8_turn 9 = .ok (.iload_n 1, 1) := by decide +kernel
theorem dX8_turn_10 : decode cX8_turn 10 = .ok (.invokevirtual 163, 3) := by decide +kernel
theorem dX8_turn_13 : decode cX8_turn 13 = .ok (.goto 5, 3) := by decide +kernel
theorem dX8_turn_16 : decode cX8_turn 16 = .ok (.bipush (-101), 2) := by decide +kernel
theorem dX8_turn_18 : decode cX8_turn 18 = .ok (.ireturn, 1) := by decide +kernel
theorem dX8_goOn_0 : decode cX8_goOn 0 = .ok (.iconst 0, 1) := by decide +kernel
theorem dX8_goOn_1 : decode cX8_goOn 1 = .ok (.istore_n 1, 1) := by decide +kernel
theorem dX8_goOn_2 : decode cX8_goOn 2 = .ok (.iload_n 1, 1) := by decide +kernel
theorem dX8_goOn_3 : decode cX8_goOn 3 = .ok (.bipush 20, 2) := by decide +kernel
theorem dX8_goOn_5 : decode cX8_goOn 5 = .ok (.if_icmp .ge 41, 3) := by decide +kernel
theorem dX8_goOn_8 : decode cX8_goOn 8 = .ok (.iconst 0, 1) := by decide +kernel
theorem dX8_goOn_9 : decode cX8_goOn 9 = .ok (.istore_n 2, 1) := by decide +kernel
theorem dX8_goOn_10 : decode cX8_goOn 10 = .ok (.iconst 0, 1) := by decide +kernel
theorem dX8_goOn_11 : decode cX8_goOn 11 = .ok (.istore_n 3, 1) := by decide +kernel
theorem dX8_goOn_12 : decode cX8_goOn 12 = .ok (.iload_n 3, 1) := by decide +kernel
theorem dX8_goOn_13 : decode cX8_goOn 13 = .ok (.aload_n 0, 1) := by decide +kernel
theorem dX8_goOn_14 : decode cX8_goOn 14 = .ok (.getfield 91, 3) := by decide +kernel
theorem dX8_goOn_17 : decode cX8_goOn 17 = .ok (.if_icmp .ge 17, 3) := by decide +kernel
theorem dX8_goOn_20 : decode cX8_goOn 20 = .ok (.iload_n 2, 1) := by decide +kernel
theorem dX8_goOn_21 : decode cX8_goOn 21 = .ok (.aload_n 0, 1) := by decide +kernel
theorem dX8_goOn_22 : decode cX8_goOn 22 = .ok (.iload_n 3, 1) := by decide +kernel
theorem dX8_goOn_23 : decode cX8_goOn 23 = .ok (.invokevirtual 163, 3) := by decide +kernel
theorem dX8_goOn_26 : decode cX8_goOn 26 = .ok (.iadd, 1) := by decide +kernel
theorem dX8_goOn_27 : decode cX8_goOn 27 = .ok (.istore_n 2, 1) := by decide +kernel
theorem dX8_goOn_28 : decode cX8_goOn 28 = .ok (.iinc 3 1, 3) := by decide +kernel
theorem dX8_goOn_31 : decode cX8_goOn 31 = .ok (.goto (-19), 3) := by decide +kernel
theorem dX8_goOn_34 : decode cX8_goOn 34 = .ok (.iload_n 2, 1) := by decide +kernel
theorem dX8_goOn_35 : decode cX8_goOn 35 = .ok (.ifCond .ne 5, 3) := by decide +kernel
theorem dX8_goOn_38 : decode cX8_goOn 38 = .ok (.iload_n 1, 1) := by decide +kernel
theorem dX8_goOn_39 : decode cX8_goOn 39 = .ok (.ireturn, 1) := by decide +kernel
theorem dX8_goOn_40 : decode cX8_goOn 40 = .ok (.iinc 1 1, 3) := by decide +kernel
theorem dX8_goOn_43 : decode cX8_goOn 43 = .ok (.goto (-41), 3) := by decide +kernel
theorem dX8_goOn_46 : decode cX8_goOn 46 = .ok (.iconst (-1), 1) := by decide +kernel
theorem dX8_goOn_47 : decode cX8_goOn 47 = .ok (.ireturn, 1) := by decide +kernel
theorem dX8_hold_0 : decode cX8_hold 0 = .ok (.iconst 0, 1) := by decide +kernel
theorem dX8_hold_1 : decode cX8_hold 1 = .ok (.istore_n 1, 1) := by decide +kernel
theorem dX8_hold_2 : decode cX8_hold 2 = .ok (.iload_n 1, 1) := by decide +kernel
theorem dX8_hold_3 : decode cX8_hold 3 = .ok (.bipush 6, 2) := by decide +kernel
theorem dX8_hold_5 : decode cX8_hold 5 = .ok (.if_icmp .ge 45, 3) := by decide +kernel
theorem dX8_hold_8 : decode cX8_hold 8 = .ok (.aload_n 0, 1) := by decide +kernel
theorem dX8_hold_9 : decode cX8_hold 9 = .ok (.getfield 67, 3) := by decide +kernel
theorem dX8_hold_12 : decode cX8_hold 12 = .ok (.iload_n 1, 1) := by decide +kernel
theorem dX8_hold_13 : decode cX8_hold 13 = .ok (.aload_n 0, 1) := by decide +kernel
theorem dX8_hold_14 : decode cX8_hold 14 = .ok (.getfield 29, 3) := by decide +kernel
theorem dX8_hold_17 : decode cX8_hold 17 = .ok (.iload_n 1, 1) := by decide +kernel
theorem dX8_hold_18 : decode cX8_hold 18 = .ok (.iaload, 1) := by decide +kernel
theorem dX8_hold_19 : decode cX8_hold 19 = .ok (.iastore, 1) := by decide +kernel
theorem dX8_hold_20 : decode cX8_hold 20 = .ok (.aload_n 0, 1) := by decide +kernel
theorem dX8_hold_21 : decode cX8_hold 21 = .ok (.getfield 70, 3) := by decide +kernel
theorem dX8_hold_24 : decode cX8_hold 24 = .ok (.iload_n 1, 1) := by decide +kernel
theorem dX8_hold_25 : decode cX8_hold 25 = .ok (.aload_n 0, 1) := by decide +kernel
theorem dX8_hold_26 : decode cX8_hold 26 = .ok (.getfield 20, 3) := by decide +kernel
theorem dX8_hold_29 : decode cX8_hold 29 = .ok (.iload_n 1, 1) := by decide +kernel
theorem dX8_hold_30 : decode cX8_hold 30 = .ok (.iaload, 1) := by decide +kernel
theorem dX8_hold_31 : decode cX8_hold 31 = .ok (.iastore, 1) := by decide +kernel
theorem dX8_hold_32 : decode cX8_hold 32 = .ok (.aload_n 0, 1) := by decide +kernel
theorem dX8_hold_33 : decode cX8_hold 33 = .ok (.getfield 73, 3) := by decide +kernel
theorem dX8_hold_36 : decode cX8_hold 36 = .ok (.iload_n 1, 1) := by decide +kernel
theorem dX8_hold_37 : decode cX8_hold 37 = .ok (.aload_n 0, 1) := by decide +kernel
theorem dX8_hold_38 : decode cX8_hold 38 = .ok (.getfield 16, 3) := by decide +kernel
theorem dX8_hold_41 : decode cX8_hold 41 = .ok (.iload_n 1, 1) := by decide +kernel
theorem dX8_hold_42 : decode cX8_hold 42 = .ok (.baload, 1) := by decide +kernel
theorem dX8_hold_43 : decode cX8_hold 43 = .ok (.bastore, 1) := by decide +kernel
theorem dX8_hold_44 : decode cX8_hold 44 = .ok (.iinc 1 1, 3) := by decide +kernel
theorem dX8_hold_47 : decode cX8_hold 47 = .ok (.goto (-45), 3) := by decide +kernel
theorem dX8_hold_50 : decode cX8_hold 50 = .ok (.return_, 1) := by decide +kernel
theorem dX8_back_0 : decode cX8_back 0 = .ok (.iconst 0, 1) := by decide +kernel
theorem dX8_back_1 : decode cX8_back 1 = .ok (.istore_n 1, 1) := by decide +kernel
theorem dX8_back_2 : decode cX8_back 2 = .ok (.iload_n 1, 1) := by decide +kernel
theorem dX8_back_3 : decode cX8_back 3 = .ok (.bipush 6, 2) := by decide +kernel
theorem dX8_back_5 : decode cX8_back 5 = .ok (.if_icmp .ge 45, 3) := by decide +kernel
theorem dX8_back_8 : decode cX8_back 8 = .ok (.aload_n 0, 1) := by decide +kernel
theorem dX8_back_9 : decode cX8_back 9 = .ok (.getfield 29, 3) := by decide +kernel
theorem dX8_back_12 : decode cX8_back 12 = .ok (.iload_n 1, 1) := by decide +kernel
theorem dX8_back_13 : decode cX8_back 13 = .ok (.aload_n 0, 1) := by decide +kernel
theorem dX8_back_14 : decode cX8_back 14 = .ok (.getfield 67, 3) := by decide +kernel
theorem dX8_back_17 : decode cX8_back 17 = .ok (.iload_n 1, 1) := by decide +kernel
theorem dX8_back_18 : decode cX8_back 18 = .ok (.iaload, 1) := by decide +kernel
theorem dX8_back_19 : decode cX8_back 19 = .ok (.iastore, 1) := by decide +kernel
theorem dX8_back_20 : decode cX8_back 20 = .ok (.aload_n 0, 1) := by decide +kernel
theorem dX8_back_21 : decode cX8_back 21 = .ok (.getfield 20, 3) := by decide +kernel
theorem dX8_back_24 : decode cX8_back 24 = .ok (.iload_n 1, 1) := by decide +kernel
theorem dX8_back_25 : decode cX8_back 25 = .ok (.aload_n 0, 1) := by decide +kernel
theorem dX8_back_26 : decode cX8_back 26 = .ok (.getfield 70, 3) := by decide +kernel
theorem dX8_back_29 : decode cX8_back 29 = .ok (.iload_n 1, 1) := by decide +kernel
theorem dX8_back_30 : decode cX8_back 30 = .ok (.iaload, 1) := by decide +kernel
theorem dX8_back_31 : decode cX8_back 31 = .ok (.iastore, 1) := by decide +kernel
theorem dX8_back_32 : decode cX8_back 32 = .ok (.aload_n 0, 1) := by decide +kernel
theorem dX8_back_33 : decode cX8_back 33 = .ok (.getfield 16, 3) := by decide +kernel
theorem dX8_back_36 : decode cX8_back 36 = .ok (.iload_n 1, 1) := by decide +kernel
theorem dX8_back_37 : decode cX8_back 37 = .ok (.aload_n 0, 1) := by decide +kernel
theorem dX8_back_38 : decode cX8_back 38 = .ok (.getfield 73, 3) := by decide +kernel
theorem dX8_back_41 : decode cX8_back 41 = .ok (.iload_n 1, 1) := by decide +kernel
theorem dX8_back_42 : decode cX8_back 42 = .ok (.baload, 1) := by decide +kernel
theorem dX8_back_43 : decode cX8_back 43 = .ok (.bastore, 1) := by decide +kernel
theorem dX8_back_44 : decode cX8_back 44 = .ok (.iinc 1 1, 3) := by decide +kernel
theorem dX8_back_47 : decode cX8_back 47 = .ok (.goto (-45), 3) := by decide +kernel
theorem dX8_back_50 : decode cX8_back 50 = .ok (.return_, 1) := by decide +kernel
theorem dX8_rest_0 : decode cX8_rest 0 = .ok (.aload_n 0, 1) := by decide +kernel
theorem dX8_rest_1 : decode cX8_rest 1 = .ok (.invokevirtual 166, 3) := by decide +kernel
theorem dX8_rest_4 : decode cX8_rest 4 = .ok (.aload_n 0, 1) := by decide +kernel
theorem dX8_rest_5 : decode cX8_rest 5 = .ok (.invokevirtual 169, 3) := by decide +kernel
theorem dX8_rest_8 : decode cX8_rest 8 = .ok (.istore_n 1, 1) := by decide +kernel
theorem dX8_rest_9 : decode cX8_rest 9 = .ok (.iload_n 1, 1) := by decide +kernel
theorem dX8_rest_10 : decode cX8_rest 10 = .ok (.iconst (-1), 1) := by decide +kernel
theorem dX8_rest_11 : decode cX8_rest 11 = .ok (.if_icmp .ne 10, 3) := by decide +kernel
theorem dX8_rest_14 : decode cX8_rest 14 = .ok (.aload_n 0, 1) := by decide +kernel
theorem dX8_rest_15 : decode cX8_rest 15 = .ok (.invokevirtual 172, 3) := by decide +kernel
theorem dX8_rest_18 : decode cX8_rest 18 = .ok (.bipush (-103), 2) := by decide +kernel
theorem dX8_rest_20 : decode cX8_rest 20 = .ok (.ireturn, 1) := by decide +kernel
theorem dX8_rest_21 : decode cX8_rest 21 = .ok (.iload_n 1, 1) := by decide +kernel
theorem dX8_rest_22 : decode cX8_rest 22 = .ok (.ireturn, 1) := by decide +kernel
theorem dX8_gainOf_0 : decode cX8_gainOf 0 = .ok (.aload_n 0, 1) := by decide +kernel
theorem dX8_gainOf_1 : decode cX8_gainOf 1 = .ok (.iload_n 1, 1) := by decide +kernel
theorem dX8_gainOf_2 : decode cX8_gainOf 2 = .ok (.invokevirtual 144, 3) := by decide +kernel
theorem dX8_gainOf_5 : decode cX8_gainOf 5 = .ok (.istore_n 2, 1) := by decide +kernel
theorem dX8_gainOf_6 : decode cX8_gainOf 6 = .ok (.aload_n 0, 1) := by decide +kernel
theorem dX8_gainOf_7 : decode cX8_gainOf 7 = .ok (.iload_n 1, 1) := by decide +kernel
theorem dX8_gainOf_8 : decode cX8_gainOf 8 = .ok (.invokevirtual 159, 3) := by decide +kernel
theorem dX8_gainOf_11 : decode cX8_gainOf 11 = .ok (.aload_n 0, 1) := by decide +kernel
theorem dX8_gainOf_12 : decode cX8_gainOf 12 = .ok (.getfield 152, 3) := by decide +kernel
theorem dX8_gainOf_15 : decode cX8_gainOf 15 = .ok (.iload_n 2, 1) := by decide +kernel
theorem dX8_gainOf_16 : decode cX8_gainOf 16 = .ok (.isub, 1) := by decide +kernel
theorem dX8_gainOf_17 : decode cX8_gainOf 17 = .ok (.ireturn, 1) := by decide +kernel
theorem dX8_otherwise_0 : decode cX8_otherwise 0 = .ok (.iconst 0, 1) := by decide +kernel
theorem dX8_otherwise_1 : decode cX8_otherwise 1 = .ok (.istore_n 1, 1) := by decide +kernel
theorem dX8_otherwise_2 : decode cX8_otherwise 2 = .ok (.iload_n 1, 1) := by decide +kernel
theorem dX8_otherwise_3 : decode cX8_otherwise 3 = .ok (.aload_n 0, 1) := by decide +kernel
theorem dX8_otherwise_4 : decode cX8_otherwise 4 = .ok (.getfield 91, 3) := by decide +kernel
theorem dX8_otherwise_7 : decode cX8_otherwise 7 = .ok (.if_icmp .ge 19, 3) := by decide +kernel
theorem dX8_otherwise_10 : decode cX8_otherwise 10 = .ok (.aload_n 0, 1) := by decide +kernel
theorem dX8_otherwise_11 : decode cX8_otherwise 11 = .ok (.iload_n 1, 1) := by decide +kernel
theorem dX8_otherwise_12 : decode cX8_otherwise 12 = .ok (.invokevirtual 175, 3) := by decide +kernel
theorem dX8_otherwise_15 : decode cX8_otherwise 15 = .ok (.ifCond .le 5, 3) := by decide +kernel
theorem dX8_otherwise_18 : decode cX8_otherwise 18 = .ok (.iload_n 1, 1) := by decide +kernel
theorem dX8_otherwise_19 : decode cX8_otherwise 19 = .ok (.ireturn, 1) := by decide +kernel
theorem dX8_otherwise_20 : decode cX8_otherwise 20 = .ok (.iinc 1 1, 3) := by decide +kernel
theorem dX8_otherwise_23 : decode cX8_otherwise 23 = .ok (.goto (-21), 3) := by decide +kernel
theorem dX8_otherwise_26 : decode cX8_otherwise 26 = .ok (.iconst (-1), 1) := by decide +kernel
theorem dX8_otherwise_27 : decode cX8_otherwise 27 = .ok (.ireturn, 1) := by decide +kernel
theorem dX8_gain_0 : decode cX8_gain 0 = .ok (.aload_n 0, 1) := by decide +kernel
theorem dX8_gain_1 : decode cX8_gain 1 = .ok (.iload_n 1, 1) := by decide +kernel
theorem dX8_gain_2 : decode cX8_gain 2 = .ok (.invokevirtual 104, 3) := by decide +kernel
theorem dX8_gain_5 : decode cX8_gain 5 = .ok (.ifCond .eq 11, 3) := by decide +kernel
theorem dX8_gain_8 : decode cX8_gain 8 = .ok (.aload_n 0, 1) := by decide +kernel
theorem dX8_gain_9 : decode cX8_gain 9 = .ok (.iload_n 1, 1) := by decide +kernel
theorem dX8_gain_10 : decode cX8_gain 10 = .ok (.invokevirtual 175, 3) := by decide +kernel
theorem dX8_gain_13 : decode cX8_gain 13 = .ok (.goto 5, 3) := by decide +kernel
theorem dX8_gain_16 : decode cX8_gain 16 = .ok (.ldc 147, 2) := by decide +kernel
theorem dX8_gain_18 : decode cX8_gain 18 = .ok (.ireturn, 1) := by decide +kernel
theorem dX8_profitOfSet_0 : decode cX8_profitOfSet 0 = .ok (.aload_n 0, 1) := by decide +kernel
theorem dX8_profitOfSet_1 : decode cX8_profitOfSet 1 = .ok (.invokevirtual 128, 3) := by decide +kernel
theorem dX8_profitOfSet_4 : decode cX8_profitOfSet 4 = .ok (.pop, 1) := by decide +kernel
theorem dX8_profitOfSet_5 : decode cX8_profitOfSet 5 = .ok (.iconst 0, 1) := by decide +kernel
theorem dX8_profitOfSet_6 : decode cX8_profitOfSet 6 = .ok (.istore_n 2, 1) := by decide +kernel
theorem dX8_profitOfSet_7 : decode cX8_profitOfSet 7 = .ok (.iconst 0, 1) := by decide +kernel
theorem dX8_profitOfSet_8 : decode cX8_profitOfSet 8 = .ok (.istore_n 3, 1) := by decide +kernel
theorem dX8_profitOfSet_9 : decode cX8_profitOfSet 9 = .ok (.iload_n 3, 1) := by decide +kernel
theorem dX8_profitOfSet_10 : decode cX8_profitOfSet 10 = .ok (.aload_n 0, 1) := by decide +kernel
theorem dX8_profitOfSet_11 : decode cX8_profitOfSet 11 = .ok (.getfield 98, 3) := by decide +kernel
theorem dX8_profitOfSet_14 : decode cX8_profitOfSet 14 = .ok (.if_icmp .ge 45, 3) := by decide +kernel
theorem dX8_profitOfSet_17 : decode cX8_profitOfSet 17 = .ok (.iload_n 2, 1) := by decide +kernel
theorem dX8_profitOfSet_18 : decode cX8_profitOfSet 18 = .ok (.iload_n 1, 1) := by decide +kernel
theorem dX8_profitOfSet_19 : decode cX8_profitOfSet 19 = .ok (.iload_n 3, 1) := by decide +kernel
theorem dX8_profitOfSet_20 : decode cX8_profitOfSet 20 = .ok (.ishr, 1) := by decide +kernel
theorem dX8_profitOfSet_21 : decode cX8_profitOfSet 21 = .ok (.iconst 1, 1) := by decide +kernel
theorem dX8_profitOfSet_22 : decode cX8_profitOfSet 22 = .ok (.iand, 1) := by decide +kernel
theorem dX8_profitOfSet_23 : decode cX8_profitOfSet 23 = .ok (.iconst 1, 1) := by decide +kernel
theorem dX8_profitOfSet_24 : decode cX8_profitOfSet 24 = .ok (.if_icmp .ne 26, 3) := by decide +kernel
theorem dX8_profitOfSet_27 : decode cX8_profitOfSet 27 = .ok (.aload_n 0, 1) := by decide +kernel
theorem dX8_profitOfSet_28 : decode cX8_profitOfSet 28 = .ok (.getfield 58, 3) := by decide +kernel
theorem dX8_profitOfSet_31 : decode cX8_profitOfSet 31 = .ok (.iload_n 3, 1) := by decide +kernel
theorem dX8_profitOfSet_32 : decode cX8_profitOfSet 32 = .ok (.iaload, 1) := by decide +kernel
theorem dX8_profitOfSet_33 : decode cX8_profitOfSet 33 = .ok (.aload_n 0, 1) := by decide +kernel
theorem dX8_profitOfSet_34 : decode cX8_profitOfSet 34 = .ok (.getfield 29, 3) := by decide +kernel
theorem dX8_profitOfSet_37 : decode cX8_profitOfSet 37 = .ok (.iload_n 3, 1) := by decide +kernel
theorem dX8_profitOfSet_38 : decode cX8_profitOfSet 38 = .ok (.iaload, 1) := by decide +kernel
theorem dX8_profitOfSet_39 : decode cX8_profitOfSet 39 = .ok (.aload_n 0, 1) := by decide +kernel
theorem dX8_profitOfSet_40 : decode cX8_profitOfSet 40 = .ok (.getfield 26, 3) := by decide +kernel
theorem dX8_profitOfSet_43 : decode cX8_profitOfSet 43 = .ok (.iload_n 3, 1) := by decide +kernel
theorem dX8_profitOfSet_44 : decode cX8_profitOfSet 44 = .ok (.iaload, 1) := by decide +kernel
theorem dX8_profitOfSet_45 : decode cX8_profitOfSet 45 = .ok (.isub, 1) := by decide +kernel
theorem dX8_profitOfSet_46 : decode cX8_profitOfSet 46 = .ok (.imul, 1) := by decide +kernel
theorem dX8_profitOfSet_47 : decode cX8_profitOfSet 47 = .ok (.goto 4, 3) := by decide +kernel
theorem dX8_profitOfSet_50 : decode cX8_profitOfSet 50 = .ok (.iconst 0, 1) := by decide +kernel
theorem dX8_profitOfSet_51 : decode cX8_profitOfSet 51 = .ok (.iadd, 1) := by decide +kernel
theorem dX8_profitOfSet_52 : decode cX8_profitOfSet 52 = .ok (.istore_n 2, 1) := by decide +kernel
theorem dX8_profitOfSet_53 : decode cX8_profitOfSet 53 = .ok (.iinc 3 1, 3) := by decide +kernel
theorem dX8_profitOfSet_56 : decode cX8_profitOfSet 56 = .ok (.goto (-47), 3) := by decide +kernel
theorem dX8_profitOfSet_59 : decode cX8_profitOfSet 59 = .ok (.iload_n 2, 1) := by decide +kernel
theorem dX8_profitOfSet_60 : decode cX8_profitOfSet 60 = .ok (.ireturn, 1) := by decide +kernel
theorem dX8_pays_0 : decode cX8_pays 0 = .ok (.aload_n 0, 1) := by decide +kernel
theorem dX8_pays_1 : decode cX8_pays 1 = .ok (.iload_n 1, 1) := by decide +kernel
theorem dX8_pays_2 : decode cX8_pays 2 = .ok (.invokevirtual 178, 3) := by decide +kernel
theorem dX8_pays_5 : decode cX8_pays 5 = .ok (.istore_n 3, 1) := by decide +kernel
theorem dX8_pays_6 : decode cX8_pays 6 = .ok (.iconst 0, 1) := by decide +kernel
theorem dX8_pays_7 : decode cX8_pays 7 = .ok (.istore 4, 2) := by decide +kernel
theorem dX8_pays_9 : decode cX8_pays 9 = .ok (.iload 4, 2) := by decide +kernel
theorem dX8_pays_11 : decode cX8_pays 11 = .ok (.aload_n 0, 1) := by decide +kernel
theorem dX8_pays_12 : decode cX8_pays 12 = .ok (.getfield 98, 3) := by decide +kernel
theorem dX8_pays_15 : decode cX8_pays 15 = .ok (.if_icmp .ge 74, 3) := by decide +kernel
theorem dX8_pays_18 : decode cX8_pays 18 = .ok (.aload_n 0, 1) := by decide +kernel
theorem dX8_pays_19 : decode cX8_pays 19 = .ok (.getfield 64, 3) := by decide +kernel
theorem dX8_pays_22 : decode cX8_pays 22 = .ok (.iload 4, 2) := by decide +kernel
theorem dX8_pays_24 : decode cX8_pays 24 = .ok (.aload_n 0, 1) := by decide +kernel
theorem dX8_pays_25 : decode cX8_pays 25 = .ok (.getfield 29, 3) := by decide +kernel
theorem dX8_pays_28 : decode cX8_pays 28 = .ok (.iload 4, 2) := by decide +kernel
theorem dX8_pays_30 : decode cX8_pays 30 = .ok (.iaload, 1) := by decide +kernel
theorem dX8_pays_31 : decode cX8_pays 31 = .ok (.iastore, 1) := by decide +kernel
theorem dX8_pays_32 : decode cX8_pays 32 = .ok (.aload_n 0, 1) := by decide +kernel
theorem dX8_pays_33 : decode cX8_pays 33 = .ok (.getfield 29, 3) := by decide +kernel
theorem dX8_pays_36 : decode cX8_pays 36 = .ok (.iload 4, 2) := by decide +kernel
theorem dX8_pays_38 : decode cX8_pays 38 = .ok (.iaload, 1) := by decide +kernel
theorem dX8_pays_39 : decode cX8_pays 39 = .ok (.iload_n 2, 1) := by decide +kernel
theorem dX8_pays_40 : decode cX8_pays 40 = .ok (.iadd, 1) := by decide +kernel
theorem dX8_pays_41 : decode cX8_pays 41 = .ok (.istore 5, 2) := by decide +kernel
theorem dX8_pays_43 : decode cX8_pays 43 = .ok (.aload_n 0, 1) := by decide +kernel
theorem dX8_pays_44 : decode cX8_pays 44 = .ok (.getfield 29, 3) := by decide +kernel
theorem dX8_pays_47 : decode cX8_pays 47 = .ok (.iload 4, 2) := by decide +kernel
theorem dX8_pays_49 : decode cX8_pays 49 = .ok (.iload_n 1, 1) := by decide +kernel
theorem dX8_pays_50 : decode cX8_pays 50 = .ok (.iload 4, 2) := by decide +kernel
theorem dX8_pays_52 : decode cX8_pays 52 = .ok (.ishr, 1) := by decide +kernel
theorem dX8_pays_53 : decode cX8_pays 53 = .ok (.iconst 1, 1) := by decide +kernel
theorem dX8_pays_54 : decode cX8_pays 54 = .ok (.iand, 1) := by decide +kernel
theorem dX8_pays_55 : decode cX8_pays 55 = .ok (.ifCond .ne 13, 3) := by decide +kernel
theorem dX8_pays_58 : decode cX8_pays 58 = .ok (.aload_n 0, 1) := by decide +kernel
theorem dX8_pays_59 : decode cX8_pays 59 = .ok (.getfield 29, 3) := by decide +kernel
theorem dX8_pays_62 : decode cX8_pays 62 = .ok (.iload 4, 2) := by decide +kernel
theorem dX8_pays_64 : decode cX8_pays 64 = .ok (.iaload, 1) := by decide +kernel
theorem dX8_pays_65 : decode cX8_pays 65 = .ok (.goto 17, 3) := by decide +kernel
theorem dX8_pays_68 : decode cX8_pays 68 = .ok (.iload 5, 2) := by decide +kernel
theorem dX8_pays_70 : decode cX8_pays 70 = .ok (.bipush 9, 2) := by decide +kernel
theorem dX8_pays_72 : decode cX8_pays 72 = .ok (.if_icmp .le 8, 3) := by decide +kernel
theorem dX8_pays_75 : decode cX8_pays 75 = .ok (.bipush 9, 2) := by decide +kernel
theorem dX8_pays_77 : decode cX8_pays 77 = .ok (.goto 5, 3) := by decide +kernel
theorem dX8_pays_80 : decode cX8_pays 80 = .ok (.iload 5, 2) := by decide +kernel
theorem dX8_pays_82 : decode cX8_pays 82 = .ok (.iastore, 1) := by decide +kernel
theorem dX8_pays_83 : decode cX8_pays 83 = .ok (.iinc 4 1, 3) := by decide +kernel
theorem dX8_pays_86 : decode cX8_pays 86 = .ok (.goto (-77), 3) := by decide +kernel
theorem dX8_pays_89 : decode cX8_pays 89 = .ok (.aload_n 0, 1) := by decide +kernel
theorem dX8_pays_90 : decode cX8_pays 90 = .ok (.iload_n 1, 1) := by decide +kernel
theorem dX8_pays_91 : decode cX8_pays 91 = .ok (.invokevirtual 178, 3) := by decide +kernel
theorem dX8_pays_94 : decode cX8_pays 94 = .ok (.istore 4, 2) := by decide +kernel
theorem dX8_pays_96 : decode cX8_pays 96 = .ok (.iconst 0, 1) := by decide +kernel
theorem dX8_pays_97 : decode cX8_pays 97 = .ok (.istore 5, 2) := by decide +kernel
theorem dX8_pays_99 : decode cX8_pays 99 = .ok (.iload 5, 2) := by decide +kernel
theorem dX8_pays_101 : decode cX8_pays 101 = .ok (.aload_n 0, 1) := by decide +kernel
theorem dX8_pays_102 : decode cX8_pays 102 = .ok (.getfield 98, 3) := by decide +kernel
theorem dX8_pays_105 : decode cX8_pays 105 = .ok (.if_icmp .ge 23, 3) := by decide +kernel
theorem dX8_pays_108 : decode cX8_pays 108 = .ok (.aload_n 0, 1) := by decide +kernel
theorem dX8_pays_109 : decode cX8_pays 109 = .ok (.getfield 29, 3) := by decide +kernel
theorem dX8_pays_112 : decode cX8_pays 112 = .ok (.iload 5, 2) := by decide +kernel
theorem dX8_pays_114 : decode cX8_pays 114 = .ok (.aload_n 0, 1) := by decide +kernel
theorem dX8_pays_115 : decode cX8_pays 115 = .ok (.getfield 64, 3) := by decide +kernel
theorem dX8_pays_118 : decode cX8_pays 118 = .ok (.iload 5, 2) := by decide +kernel
theorem dX8_pays_120 : decode cX8_pays 120 = .ok (.iaload, 1) := by decide +kernel
theorem dX8_pays_121 : decode cX8_pays 121 = .ok (.iastore, 1) := by decide +kernel
theorem dX8_pays_122 : decode cX8_pays 122 = .ok (.iinc 5 1, 3) := by decide +kernel
theorem dX8_pays_125 : decode cX8_pays 125 = .ok (.goto (-26), 3) := by decide +kernel
theorem dX8_pays_128 : decode cX8_pays 128 = .ok (.iload 4, 2) := by decide +kernel
theorem dX8_pays_130 : decode cX8_pays 130 = .ok (.iload_n 3, 1) := by decide +kernel
theorem dX8_pays_131 : decode cX8_pays 131 = .ok (.if_icmp .lt 7, 3) := by decide +kernel
theorem dX8_pays_134 : decode cX8_pays 134 = .ok (.iconst 1, 1) := by decide +kernel
theorem dX8_pays_135 : decode cX8_pays 135 = .ok (.goto 4, 3) := by decide +kernel
theorem dX8_pays_138 : decode cX8_pays 138 = .ok (.iconst 0, 1) := by decide +kernel
theorem dX8_pays_139 : decode cX8_pays 139 = .ok (.ireturn, 1) := by decide +kernel
theorem dX8_openSet_0 : decode cX8_openSet 0 = .ok (.iconst 0, 1) := by decide +kernel
theorem dX8_openSet_1 : decode cX8_openSet 1 = .ok (.istore_n 1, 1) := by decide +kernel
theorem dX8_openSet_2 : decode cX8_openSet 2 = .ok (.iconst 0, 1) := by decide +kernel
theorem dX8_openSet_3 : decode cX8_openSet 3 = .ok (.istore_n 2, 1) := by decide +kernel
theorem dX8_openSet_4 : decode cX8_openSet 4 = .ok (.iload_n 2, 1) := by decide +kernel
theorem dX8_openSet_5 : decode cX8_openSet 5 = .ok (.aload_n 0, 1) := by decide +kernel
theorem dX8_openSet_6 : decode cX8_openSet 6 = .ok (.getfield 98, 3) := by decide +kernel
theorem dX8_openSet_9 : decode cX8_openSet 9 = .ok (.if_icmp .ge 27, 3) := by decide +kernel
theorem dX8_openSet_12 : decode cX8_openSet 12 = .ok (.iload_n 1, 1) := by decide +kernel
theorem dX8_openSet_13 : decode cX8_openSet 13 = .ok (.aload_n 0, 1) := by decide +kernel
theorem dX8_openSet_14 : decode cX8_openSet 14 = .ok (.iload_n 2, 1) := by decide +kernel
theorem dX8_openSet_15 : decode cX8_openSet 15 = .ok (.invokevirtual 119, 3) := by decide +kernel
theorem dX8_openSet_18 : decode cX8_openSet 18 = .ok (.ifCond .eq 9, 3) := by decide +kernel
theorem dX8_openSet_21 : decode cX8_openSet 21 = .ok (.iconst 1, 1) := by decide +kernel
theorem dX8_openSet_22 : decode cX8_openSet 22 = .ok (.iload_n 2, 1) := by decide +kernel
theorem dX8_openSet_23 : decode cX8_openSet 23 = .ok (.ishl, 1) := by decide +kernel
theorem dX8_openSet_24 : decode cX8_openSet 24 = .ok (.goto 4, 3) := by decide +kernel
theorem dX8_openSet_27 : decode cX8_openSet 27 = .ok (.iconst 0, 1) := by decide +kernel
theorem dX8_openSet_28 : decode cX8_openSet 28 = .ok (.ior, 1) := by decide +kernel
theorem dX8_openSet_29 : decode cX8_openSet 29 = .ok (.istore_n 1, 1) := by decide +kernel
theorem dX8_openSet_30 : decode cX8_openSet 30 = .ok (.iinc 2 1, 3) := by decide +kernel
theorem dX8_openSet_33 : decode cX8_openSet 33 = .ok (.goto (-29), 3) := by decide +kernel
theorem dX8_openSet_36 : decode cX8_openSet 36 = .ok (.iload_n 1, 1) := by decide +kernel
theorem dX8_openSet_37 : decode cX8_openSet 37 = .ok (.ireturn, 1) := by decide +kernel
theorem dX8_ones_0 : decode cX8_ones 0 = .ok (.iconst 0, 1) := by decide +kernel
theorem dX8_ones_1 : decode cX8_ones 1 = .ok (.istore_n 1, 1) := by decide +kernel
theorem dX8_ones_2 : decode cX8_ones 2 = .ok (.iload_n 0, 1) := by decide +kernel
theorem dX8_ones_3 : decode cX8_ones 3 = .ok (.istore_n 2, 1) := by decide +kernel
theorem dX8_ones_4 : decode cX8_ones 4 = .ok (.iload_n 2, 1) := by decide +kernel
theorem dX8_ones_5 : decode cX8_ones 5 = .ok (.ifCond .eq 15, 3) := by decide +kernel
theorem dX8_ones_8 : decode cX8_ones 8 = .ok (.iinc 1 1, 3) := by decide +kernel
theorem dX8_ones_11 : decode cX8_ones 11 = .ok (.iload_n 2, 1) := by decide +kernel
theorem dX8_ones_12 : decode cX8_ones 12 = .ok (.iload_n 2, 1) := by decide +kernel
theorem dX8_ones_13 : decode cX8_ones 13 = .ok (.iconst 1, 1) := by decide +kernel
theorem dX8_ones_14 : decode cX8_ones 14 = .ok (.isub, 1) := by decide +kernel
theorem dX8_ones_15 : decode cX8_ones 15 = .ok (.iand, 1) := by decide +kernel
theorem dX8_ones_16 : decode cX8_ones 16 = .ok (.istore_n 2, 1) := by decide +kernel
theorem dX8_ones_17 : decode cX8_ones 17 = .ok (.goto (-13), 3) := by decide +kernel
theorem dX8_ones_20 : decode cX8_ones 20 = .ok (.iload_n 1, 1) := by decide +kernel
theorem dX8_ones_21 : decode cX8_ones 21 = .ok (.ireturn, 1) := by decide +kernel
theorem dX8_nearestMarket_0 : decode cX8_nearestMarket 0 = .ok (.iconst 1, 1) := by decide +kernel
theorem dX8_nearestMarket_1 : decode cX8_nearestMarket 1 = .ok (.iload_n 1, 1) := by decide +kernel
theorem dX8_nearestMarket_2 : decode cX8_nearestMarket 2 = .ok (.ishl, 1) := by decide +kernel
theorem dX8_nearestMarket_3 : decode cX8_nearestMarket 3 = .ok (.istore_n 3, 1) := by decide +kernel
theorem dX8_nearestMarket_4 : decode cX8_nearestMarket 4 = .ok (.aload_n 0, 1) := by decide +kernel
theorem dX8_nearestMarket_5 : decode cX8_nearestMarket 5 = .ok (.invokevirtual 181, 3) := by decide +kernel
theorem dX8_nearestMarket_8 : decode cX8_nearestMarket 8 = .ok (.istore 4, 2) := by decide +kernel
theorem dX8_nearestMarket_10 : decode cX8_nearestMarket 10 = .ok (.iload_n 3, 1) := by decide +kernel
theorem dX8_nearestMarket_11 : decode cX8_nearestMarket 11 = .ok (.iconst (-1), 1) := by decide +kernel
theorem dX8_nearestMarket_12 : decode cX8_nearestMarket 12 = .ok (.if_icmp .eq 137, 3) := by decide +kernel
theorem dX8_nearestMarket_15 : decode cX8_nearestMarket 15 = .ok (.aload_n 0, 1) := by decide +kernel
theorem dX8_nearestMarket_16 : decode cX8_nearestMarket 16 = .ok (.iload_n 3, 1) := by decide +kernel
theorem dX8_nearestMarket_17 : decode cX8_nearestMarket 17 = .ok (.iload_n 2, 1) := by decide +kernel
theorem dX8_nearestMarket_18 : decode cX8_nearestMarket 18 = .ok (.invokevirtual 184, 3) := by decide +kernel
theorem dX8_nearestMarket_21 : decode cX8_nearestMarket 21 = .ok (.ifCond .ne 128, 3) := by decide +kernel
theorem dX8_nearestMarket_24 : decode cX8_nearestMarket 24 = .ok (.iconst (-1), 1) := by decide +kernel
theorem dX8_nearestMarket_25 : decode cX8_nearestMarket 25 = .ok (.istore 5, 2) := by decide +kernel
theorem dX8_nearestMarket_27 : decode cX8_nearestMarket 27 = .ok (.iconst 0, 1) := by decide +kernel
theorem dX8_nearestMarket_28 : decode cX8_nearestMarket 28 = .ok (.istore 6, 2) := by decide +kernel
theorem dX8_nearestMarket_30 : decode cX8_nearestMarket 30 = .ok (.iload 6, 2) := by decide +kernel
theorem dX8_nearestMarket_32 : decode cX8_nearestMarket 32 = .ok (.aload_n 0, 1) := by decide +kernel
theorem dX8_nearestMarket_33 : decode cX8_nearestMarket 33 = .ok (.getfield 98, 3) := by decide +kernel
theorem dX8_nearestMarket_36 : decode cX8_nearestMarket 36 = .ok (.if_icmp .ge 93, 3) := by decide +kernel
theorem dX8_nearestMarket_39 : decode cX8_nearestMarket 39 = .ok (.iload 4, 2) := by decide +kernel
theorem dX8_nearestMarket_41 : decode cX8_nearestMarket 41 = .ok (.iload 6, 2) := by decide +kernel
theorem dX8_nearestMarket_43 : decode cX8_nearestMarket 43 = .ok (.ishr, 1) := by decide +kernel
theorem dX8_nearestMarket_44 : decode cX8_nearestMarket 44 = .ok (.iconst 1, 1) := by decide +kernel
theorem dX8_nearestMarket_45 : decode cX8_nearestMarket 45 = .ok (.iand, 1) := by decide +kernel
theorem dX8_nearestMarket_46 : decode cX8_nearestMarket 46 = .ok (.iconst 1, 1) := by decide +kernel
theorem dX8_nearestMarket_47 : decode cX8_nearestMarket 47 = .ok (.if_icmp .ne 16, 3) := by decide +kernel
theorem dX8_nearestMarket_50 : decode cX8_nearestMarket 50 = .ok (.iload_n 3, 1) := by decide +kernel
theorem dX8_nearestMarket_51 : decode cX8_nearestMarket 51 = .ok (.iload 6, 2) := by decide +kernel
theorem dX8_nearestMarket_53 : decode cX8_nearestMarket 53 = .ok (.ishr, 1) := by decide +kernel
theorem dX8_nearestMarket_54 : decode cX8_nearestMarket 54 = .ok (.iconst 1, 1) := by decide +kernel
theorem dX8_nearestMarket_55 : decode cX8_nearestMarket 55 = .ok (.iand, 1) := by decide +kernel
theorem dX8_nearestMarket_56 : decode cX8_nearestMarket 56 = .ok (.ifCond .ne 7, 3) := by decide +kernel
theorem dX8_nearestMarket_59 : decode cX8_nearestMarket 59 = .ok (.iconst 1, 1) := by decide +kernel
theorem dX8_nearestMarket_60 : decode cX8_nearestMarket 60 = .ok (.goto 4, 3) := by decide +kernel
theorem dX8_nearestMarket_63 : decode cX8_nearestMarket 63 = .ok (.iconst 0, 1) := by decide +kernel
theorem dX8_nearestMarket_64 : decode cX8_nearestMarket 64 = .ok (.istore 7, 2) := by decide +kernel
theorem dX8_nearestMarket_66 : decode cX8_nearestMarket 66 = .ok (.iload 7, 2) := by decide +kernel
theorem dX8_nearestMarket_68 : decode cX8_nearestMarket 68 = .ok (.ifCond .eq 51, 3) := by decide +kernel
theorem dX8_nearestMarket_71 : decode cX8_nearestMarket 71 = .ok (.iload 5, 2) := by decide +kernel
theorem dX8_nearestMarket_73 : decode cX8_nearestMarket 73 = .ok (.iconst (-1), 1) := by decide +kernel
theorem dX8_nearestMarket_74 : decode cX8_nearestMarket 74 = .ok (.if_icmp .eq 40, 3) := by decide +kernel
theorem dX8_nearestMarket_77 : decode cX8_nearestMarket 77 = .ok (.aload_n 0, 1) := by decide +kernel
theorem dX8_nearestMarket_78 : decode cX8_nearestMarket 78 = .ok (.getfield 23, 3) := by decide +kernel
theorem dX8_nearestMarket_81 : decode cX8_nearestMarket 81 = .ok (.iload 6, 2) := by decide +kernel
theorem dX8_nearestMarket_83 : decode cX8_nearestMarket 83 = .ok (.iaload, 1) := by decide +kernel
theorem dX8_nearestMarket_84 : decode cX8_nearestMarket 84 = .ok (.aload_n 0, 1) := by decide +kernel
theorem dX8_nearestMarket_85 : decode cX8_nearestMarket 85 = .ok (.getfield 23, 3) := by decide +kernel
theorem dX8_nearestMarket_88 : decode cX8_nearestMarket 88 = .ok (.iload_n 1, 1) := by decide +kernel
theorem dX8_nearestMarket_89 : decode cX8_nearestMarket 89 = .ok (.iaload, 1) := by decide +kernel
theorem dX8_nearestMarket_90 : decode cX8_nearestMarket 90 = .ok (.isub, 1) := by decide +kernel
theorem dX8_nearestMarket_91 : decode cX8_nearestMarket 91 = .ok (.invokestatic 116, 3) := by decide +kernel
theorem dX8_nearestMarket_94 : decode cX8_nearestMarket 94 = .ok (.aload_n 0, 1) := by decide +kernel
theorem dX8_nearestMarket_95 : decode cX8_nearestMarket 95 = .ok (.getfield 23, 3) := by decide +kernel
theorem dX8_nearestMarket_98 : decode cX8_nearestMarket 98 = .ok (.iload 5, 2) := by decide +kernel
theorem dX8_nearestMarket_100 : decode cX8_nearestMarket 100 = .ok (.iaload, 1) := by decide +kernel
theorem dX8_nearestMarket_101 : decode cX8_nearestMarket 101 = .ok (.aload_n 0, 1) := by decide +kernel
theorem dX8_nearestMarket_102 : decode cX8_nearestMarket 102 = .ok (.getfield 23, 3) := by decide +kernel
theorem dX8_nearestMarket_105 : decode cX8_nearestMarket 105 = .ok (.iload_n 1, 1) := by decide +kernel
theorem dX8_nearestMarket_106 : decode cX8_nearestMarket 106 = .ok (.iaload, 1) := by decide +kernel
theorem dX8_nearestMarket_107 : decode cX8_nearestMarket 107 = .ok (.isub, 1) := by decide +kernel
theorem dX8_nearestMarket_108 : decode cX8_nearestMarket 108 = .ok (.invokestatic 116, 3) := by decide +kernel
theorem dX8_nearestMarket_111 : decode cX8_nearestMarket 111 = .ok (.if_icmp .ge 8, 3) := by decide +kernel
theorem dX8_nearestMarket_114 : decode cX8_nearestMarket 114 = .ok (.iload 6, 2) := by decide +kernel
theorem dX8_nearestMarket_116 : decode cX8_nearestMarket 116 = .ok (.goto 5, 3) := by decide +kernel
theorem dX8_nearestMarket_119 : decode cX8_nearestMarket 119 = .ok (.iload 5, 2) := by decide +kernel
theorem dX8_nearestMarket_121 : decode cX8_nearestMarket 121 = .ok (.istore 5, 2) := by decide +kernel
theorem dX8_nearestMarket_123 : decode cX8_nearestMarket 123 = .ok (.iinc 6 1, 3) := by decide +kernel
theorem dX8_nearestMarket_126 : decode cX8_nearestMarket 126 = .ok (.goto (-96), 3) := by decide +kernel
theorem dX8_nearestMarket_129 : decode cX8_nearestMarket 129 = .ok (.iload 5, 2) := by decide +kernel
theorem dX8_nearestMarket_131 : decode cX8_nearestMarket 131 = .ok (.iconst (-1), 1) := by decide +kernel
theorem dX8_nearestMarket_132 : decode cX8_nearestMarket 132 = .ok (.if_icmp .ne 7, 3) := by decide +kernel
theorem dX8_nearestMarket_135 : decode cX8_nearestMarket 135 = .ok (.iconst (-1), 1) := by decide +kernel
theorem dX8_nearestMarket_136 : decode cX8_nearestMarket 136 = .ok (.goto 9, 3) := by decide +kernel
theorem dX8_nearestMarket_139 : decode cX8_nearestMarket 139 = .ok (.iload_n 3, 1) := by decide +kernel
theorem dX8_nearestMarket_140 : decode cX8_nearestMarket 140 = .ok (.iconst 1, 1) := by decide +kernel
theorem dX8_nearestMarket_141 : decode cX8_nearestMarket 141 = .ok (.iload 5, 2) := by decide +kernel
theorem dX8_nearestMarket_143 : decode cX8_nearestMarket 143 = .ok (.ishl, 1) := by decide +kernel
theorem dX8_nearestMarket_144 : decode cX8_nearestMarket 144 = .ok (.ior, 1) := by decide +kernel
theorem dX8_nearestMarket_145 : decode cX8_nearestMarket 145 = .ok (.istore_n 3, 1) := by decide +kernel
theorem dX8_nearestMarket_146 : decode cX8_nearestMarket 146 = .ok (.goto (-136), 3) := by decide +kernel
theorem dX8_nearestMarket_149 : decode cX8_nearestMarket 149 = .ok (.iload_n 3, 1) := by decide +kernel
theorem dX8_nearestMarket_150 : decode cX8_nearestMarket 150 = .ok (.ireturn, 1) := by decide +kernel
theorem dX8_leastMarket_0 : decode cX8_leastMarket 0 = .ok (.aload_n 0, 1) := by decide +kernel
theorem dX8_leastMarket_1 : decode cX8_leastMarket 1 = .ok (.invokevirtual 181, 3) := by decide +kernel
theorem dX8_leastMarket_4 : decode cX8_leastMarket 4 = .ok (.istore_n 3, 1) := by decide +kernel
theorem dX8_leastMarket_5 : decode cX8_leastMarket 5 = .ok (.iconst (-1), 1) := by decide +kernel
theorem dX8_leastMarket_6 : decode cX8_leastMarket 6 = .ok (.istore 4, 2) := by decide +kernel
theorem dX8_leastMarket_8 : decode cX8_leastMarket 8 = .ok (.iconst 1, 1) := by decide +kernel
theorem dX8_leastMarket_9 : decode cX8_leastMarket 9 = .ok (.istore 5, 2) := by decide +kernel
theorem dX8_leastMarket_11 : decode cX8_leastMarket 11 = .ok (.iload 5, 2) := by decide +kernel
theorem dX8_leastMarket_13 : decode cX8_leastMarket 13 = .ok (.iconst 1, 1) := by decide +kernel
theorem dX8_leastMarket_14 : decode cX8_leastMarket 14 = .ok (.aload_n 0, 1) := by decide +kernel
theorem dX8_leastMarket_15 : decode cX8_leastMarket 15 = .ok (.getfield 98, 3) := by decide +kernel
theorem dX8_leastMarket_18 : decode cX8_leastMarket 18 = .ok (.ishl, 1) := by decide +kernel
theorem dX8_leastMarket_19 : decode cX8_leastMarket 19 = .ok (.if_icmp .ge 78, 3) := by decide +kernel
theorem dX8_leastMarket_22 : decode cX8_leastMarket 22 = .ok (.iload 5, 2) := by decide +kernel
theorem dX8_leastMarket_24 : decode cX8_leastMarket 24 = .ok (.iload_n 3, 1) := by decide +kernel
theorem dX8_leastMarket_25 : decode cX8_leastMarket 25 = .ok (.iconst (-1), 1) := by decide +kernel
theorem dX8_leastMarket_26 : decode cX8_leastMarket 26 = .ok (.ixor, 1) := by decide +kernel
theorem dX8_leastMarket_27 : decode cX8_leastMarket 27 = .ok (.iand, 1) := by decide +kernel
theorem dX8_leastMarket_28 : decode cX8_leastMarket 28 = .ok (.ifCond .ne 36, 3) := by decide +kernel
theorem dX8_leastMarket_31 : decode cX8_leastMarket 31 = .ok (.iload 5, 2) := by decide +kernel
theorem dX8_leastMarket_33 : decode cX8_leastMarket 33 = .ok (.iload_n 1, 1) := by decide +kernel
theorem dX8_leastMarket_34 : decode cX8_leastMarket 34 = .ok (.ishr, 1) := by decide +kernel
theorem dX8_leastMarket_35 : decode cX8_leastMarket 35 = .ok (.iconst 1, 1) := by decide +kernel
theorem dX8_leastMarket_36 : decode cX8_leastMarket 36 = .ok (.iand, 1) := by decide +kernel
theorem dX8_leastMarket_37 : decode cX8_leastMarket 37 = .ok (.iconst 1, 1) := by decide +kernel
theorem dX8_leastMarket_38 : decode cX8_leastMarket 38 = .ok (.if_icmp .ne 26, 3) := by decide +kernel
theorem dX8_leastMarket_41 : decode cX8_leastMarket 41 = .ok (.iload 4, 2) := by decide +kernel
theorem dX8_leastMarket_43 : decode cX8_leastMarket 43 = .ok (.iconst (-1), 1) := by decide +kernel
theorem dX8_leastMarket_44 : decode cX8_leastMarket 44 = .ok (.if_icmp .eq 16, 3) := by decide +kernel
theorem dX8_leastMarket_47 : decode cX8_leastMarket 47 = .ok (.iload 5, 2) := by decide +kernel
theorem dX8_leastMarket_49 : decode cX8_leastMarket 49 = .ok (.invokestatic 188, 3) := by decide +kernel
theorem dX8_leastMarket_52 : decode cX8_leastMarket 52 = .ok (.iload 4, 2) := by decide +kernel
theorem dX8_leastMarket_54 : decode cX8_leastMarket 54 = .ok (.invokestatic 188, 3) := by decide +kernel
theorem dX8_leastMarket_57 : decode cX8_leastMarket 57 = .ok (.if_icmp .ge 7, 3) := by decide +kernel
theorem dX8_leastMarket_60 : decode cX8_leastMarket 60 = .ok (.iconst 1, 1) := by decide +kernel
theorem dX8_leastMarket_61 : decode cX8_leastMarket 61 = .ok (.goto 4, 3) := by decide +kernel
theorem dX8_leastMarket_64 : decode cX8_leastMarket 64 = .ok (.iconst 0, 1) := by decide +kernel
theorem dX8_leastMarket_65 : decode cX8_leastMarket 65 = .ok (.istore 6, 2) := by decide +kernel
theorem dX8_leastMarket_67 : decode cX8_leastMarket 67 = .ok (.iload 6, 2) := by decide +kernel
theorem dX8_leastMarket_69 : decode cX8_leastMarket 69 = .ok (.ifCond .eq 18, 3) := by decide +kernel
theorem dX8_leastMarket_72 : decode cX8_leastMarket 72 = .ok (.aload_n 0, 1) := by decide +kernel
theorem dX8_leastMarket_73 : decode cX8_leastMarket 73 = .ok (.iload 5, 2) := by decide +kernel
theorem dX8_leastMarket_75 : decode cX8_leastMarket 75 = .ok (.iload_n 2, 1) := by decide +kernel
theorem dX8_leastMarket_76 : decode cX8_leastMarket 76 = .ok (.invokevirtual 184, 3) := by decide +kernel
theorem dX8_leastMarket_79 : decode cX8_leastMarket 79 = .ok (.ifCond .eq 8, 3) := by decide +kernel
theorem dX8_leastMarket_82 : decode cX8_leastMarket 82 = .ok (.iload 5, 2) := by decide +kernel
theorem dX8_leastMarket_84 : decode cX8_leastMarket 84 = .ok (.goto 5, 3) := by decide +kernel
theorem dX8_leastMarket_87 : decode cX8_leastMarket 87 = .ok (.iload 4, 2) := by decide +kernel
theorem dX8_leastMarket_89 : decode cX8_leastMarket 89 = .ok (.istore 4, 2) := by decide +kernel
theorem dX8_leastMarket_91 : decode cX8_leastMarket 91 = .ok (.iinc 5 1, 3) := by decide +kernel
theorem dX8_leastMarket_94 : decode cX8_leastMarket 94 = .ok (.goto (-83), 3) := by decide +kernel
theorem dX8_leastMarket_97 : decode cX8_leastMarket 97 = .ok (.iload 4, 2) := by decide +kernel
theorem dX8_leastMarket_99 : decode cX8_leastMarket 99 = .ok (.ireturn, 1) := by decide +kernel
theorem dX8_market_0 : decode cX8_market 0 = .ok (.aload_n 0, 1) := by decide +kernel
theorem dX8_market_1 : decode cX8_market 1 = .ok (.iload_n 1, 1) := by decide +kernel
theorem dX8_market_2 : decode cX8_market 2 = .ok (.invokevirtual 132, 3) := by decide +kernel
theorem dX8_market_5 : decode cX8_market 5 = .ok (.ifCond .ne 6, 3) := by decide +kernel
theorem dX8_market_8 : decode cX8_market 8 = .ok (.bipush (-101), 2) := by decide +kernel
theorem dX8_market_10 : decode cX8_market 10 = .ok (.ireturn, 1) := by decide +kernel
theorem dX8_market_11 : decode cX8_market 11 = .ok (.iload_n 2, 1) := by decide +kernel
theorem dX8_market_12 : decode cX8_market 12 = .ok (.iconst 1, 1) := by decide +kernel
theorem dX8_market_13 : decode cX8_market 13 = .ok (.iconst 5, 1) := by decide +kernel
theorem dX8_market_14 : decode cX8_market 14 = .ok (.invokestatic 94, 3) := by decide +kernel
theorem dX8_market_17 : decode cX8_market 17 = .ok (.ifCond .ne 6, 3) := by decide +kernel
theorem dX8_market_20 : decode cX8_market 20 = .ok (.bipush (-102), 2) := by decide +kernel
theorem dX8_market_22 : decode cX8_market 22 = .ok (.ireturn, 1) := by decide +kernel
theorem dX8_market_23 : decode cX8_market 23 = .ok (.aload_n 0, 1) := by decide +kernel
theorem dX8_market_24 : decode cX8_market 24 = .ok (.iload_n 1, 1) := by decide +kernel
theorem dX8_market_25 : decode cX8_market 25 = .ok (.invokevirtual 119, 3) := by decide +kernel
theorem dX8_market_28 : decode cX8_market 28 = .ok (.ifCond .ne 6, 3) := by decide +kernel
theorem dX8_market_31 : decode cX8_market 31 = .ok (.bipush (-103), 2) := by decide +kernel
theorem dX8_market_33 : decode cX8_market 33 = .ok (.ireturn, 1) := by decide +kernel
theorem dX8_market_34 : decode cX8_market 34 = .ok (.iload_n 3, 1) := by decide +kernel
theorem dX8_market_35 : decode cX8_market 35 = .ok (.ifCond .eq 12, 3) := by decide +kernel
theorem dX8_market_38 : decode cX8_market 38 = .ok (.aload_n 0, 1) := by decide +kernel
theorem dX8_market_39 : decode cX8_market 39 = .ok (.iload_n 1, 1) := by decide +kernel
theorem dX8_market_40 : decode cX8_market 40 = .ok (.iload_n 2, 1) := by decide +kernel
theorem dX8_market_41 : decode cX8_market 41 = .ok (.invokevirtual 191, 3) := by decide +kernel
theorem dX8_market_44 : decode cX8_market 44 = .ok (.goto 9, 3) := by decide +kernel
theorem dX8_market_47 : decode cX8_market 47 = .ok (.aload_n 0, 1) := by decide +kernel
theorem dX8_market_48 : decode cX8_market 48 = .ok (.iload_n 1, 1) := by decide +kernel
theorem dX8_market_49 : decode cX8_market 49 = .ok (.iload_n 2, 1) := by decide +kernel
theorem dX8_market_50 : decode cX8_market 50 = .ok (.invokevirtual 194, 3) := by decide +kernel
theorem dX8_market_53 : decode cX8_market 53 = .ok (.ireturn, 1) := by decide +kernel
theorem dX8_insteadOf_0 : decode cX8_insteadOf 0 = .ok (.aload_n 0, 1) := by decide +kernel
theorem dX8_insteadOf_1 : decode cX8_insteadOf 1 = .ok (.iload_n 2, 1) := by decide +kernel
theorem dX8_insteadOf_2 : decode cX8_insteadOf 2 = .ok (.putfield 54, 3) := by decide +kernel
theorem dX8_insteadOf_5 : decode cX8_insteadOf 5 = .ok (.aload_n 0, 1) := by decide +kernel
theorem dX8_insteadOf_6 : decode cX8_insteadOf 6 = .ok (.iload_n 1, 1) := by decide +kernel
theorem dX8_insteadOf_7 : decode cX8_insteadOf 7 = .ok (.invokevirtual 125, 3) := by decide +kernel
theorem dX8_insteadOf_10 : decode cX8_insteadOf 10 = .ok (.istore_n 3, 1) := by decide +kernel
theorem dX8_insteadOf_11 : decode cX8_insteadOf 11 = .ok (.aload_n 0, 1) := by decide +kernel
theorem dX8_insteadOf_12 : decode cX8_insteadOf 12 = .ok (.iconst (-1), 1) := by decide +kernel
theorem dX8_insteadOf_13 : decode cX8_insteadOf 13 = .ok (.putfield 54, 3) := by decide +kernel
theorem dX8_insteadOf_16 : decode cX8_insteadOf 16 = .ok (.iload_n 3, 1) := by decide +kernel
theorem dX8_insteadOf_17 : decode cX8_insteadOf 17 = .ok (.ireturn, 1) := by decide +kernel
theorem dX8_instead_0 : decode cX8_instead 0 = .ok (.aload_n 0, 1) := by decide +kernel
theorem dX8_instead_1 : decode cX8_instead 1 = .ok (.iload_n 1, 1) := by decide +kernel
theorem dX8_instead_2 : decode cX8_instead 2 = .ok (.invokevirtual 138, 3) := by decide +kernel
theorem dX8_instead_5 : decode cX8_instead 5 = .ok (.ifCond .eq 20, 3) := by decide +kernel
theorem dX8_instead_8 : decode cX8_instead 8 = .ok (.aload_n 0, 1) := by decide +kernel
theorem dX8_instead_9 : decode cX8_instead 9 = .ok (.iload_n 2, 1) := by decide +kernel
theorem dX8_instead_10 : decode cX8_instead 10 = .ok (.invokevirtual 132, 3) := by decide +kernel
theorem dX8_instead_13 : decode cX8_instead 13 = .ok (.ifCond .eq 12, 3) := by decide +kernel
theorem dX8_instead_16 : decode cX8_instead 16 = .ok (.aload_n 0, 1) := by decide +kernel
theorem dX8_instead_17 : decode cX8_instead 17 = .ok (.iload_n 1, 1) := by decide +kernel
theorem dX8_instead_18 : decode cX8_instead 18 = .ok (.iload_n 2, 1) := by decide +kernel
theorem dX8_instead_19 : decode cX8_instead 19 = .ok (.invokevirtual 197, 3) := by decide +kernel
theorem dX8_instead_22 : decode cX8_instead 22 = .ok (.goto 5, 3) := by decide +kernel
theorem dX8_instead_25 : decode cX8_instead 25 = .ok (.bipush (-101), 2) := by decide +kernel
theorem dX8_instead_27 : decode cX8_instead 27 = .ok (.ireturn, 1) := by decide +kernel
theorem dX8_from_0 : decode cX8_from 0 = .ok (.aload_n 0, 1) := by decide +kernel
theorem dX8_from_1 : decode cX8_from 1 = .ok (.iload_n 1, 1) := by decide +kernel
theorem dX8_from_2 : decode cX8_from 2 = .ok (.invokevirtual 132, 3) := by decide +kernel
theorem dX8_from_5 : decode cX8_from 5 = .ok (.ifCond .eq 16, 3) := by decide +kernel
theorem dX8_from_8 : decode cX8_from 8 = .ok (.aload_n 0, 1) := by decide +kernel
theorem dX8_from_9 : decode cX8_from 9 = .ok (.iload_n 2, 1) := by decide +kernel
theorem dX8_from_10 : decode cX8_from 10 = .ok (.invokevirtual 132, 3) := by decide +kernel
theorem dX8_from_13 : decode cX8_from 13 = .ok (.ifCond .eq 8, 3) := by decide +kernel
theorem dX8_from_16 : decode cX8_from 16 = .ok (.iload_n 1, 1) := by decide +kernel
theorem dX8_from_17 : decode cX8_from 17 = .ok (.iload_n 2, 1) := by decide +kernel
theorem dX8_from_18 : decode cX8_from 18 = .ok (.if_icmp .ne 6, 3) := by decide +kernel
theorem dX8_from_21 : decode cX8_from 21 = .ok (.bipush (-101), 2) := by decide +kernel
theorem dX8_from_23 : decode cX8_from 23 = .ok (.ireturn, 1) := by decide +kernel
theorem dX8_from_24 : decode cX8_from 24 = .ok (.iconst 0, 1) := by decide +kernel
theorem dX8_from_25 : decode cX8_from 25 = .ok (.istore_n 3, 1) := by decide +kernel
theorem dX8_from_26 : decode cX8_from 26 = .ok (.iconst 0, 1) := by decide +kernel
theorem dX8_from_27 : decode cX8_from 27 = .ok (.istore 4, 2) := by decide +kernel
theorem dX8_from_29 : decode cX8_from 29 = .ok (.iload 4, 2) := by decide +kernel
theorem dX8_from_31 : decode cX8_from 31 = .ok (.aload_n 0, 1) := by decide +kernel
theorem dX8_from_32 : decode cX8_from 32 = .ok (.getfield 101, 3) := by decide +kernel
theorem dX8_from_35 : decode cX8_from 35 = .ok (.if_icmp .ge 44, 3) := by decide +kernel
theorem dX8_from_38 : decode cX8_from 38 = .ok (.iload_n 3, 1) := by decide +kernel
theorem dX8_from_39 : decode cX8_from 39 = .ok (.aload_n 0, 1) := by decide +kernel
theorem dX8_from_40 : decode cX8_from 40 = .ok (.iload 4, 2) := by decide +kernel
theorem dX8_from_42 : decode cX8_from 42 = .ok (.invokevirtual 125, 3) := by decide +kernel
theorem dX8_from_45 : decode cX8_from 45 = .ok (.iload_n 1, 1) := by decide +kernel
theorem dX8_from_46 : decode cX8_from 46 = .ok (.if_icmp .ne 24, 3) := by decide +kernel
theorem dX8_from_49 : decode cX8_from 49 = .ok (.aload_n 0, 1) := by decide +kernel
theorem dX8_from_50 : decode cX8_from 50 = .ok (.iload 4, 2) := by decide +kernel
theorem dX8_from_52 : decode cX8_from 52 = .ok (.iload_n 1, 1) := by decide +kernel
theorem dX8_from_53 : decode cX8_from 53 = .ok (.invokevirtual 197, 3) := by decide +kernel
theorem dX8_from_56 : decode cX8_from 56 = .ok (.iload_n 2, 1) := by decide +kernel
theorem dX8_from_57 : decode cX8_from 57 = .ok (.if_icmp .ne 13, 3) := by decide +kernel
theorem dX8_from_60 : decode cX8_from 60 = .ok (.aload_n 0, 1) := by decide +kernel
theorem dX8_from_61 : decode cX8_from 61 = .ok (.iload 4, 2) := by decide +kernel
theorem dX8_from_63 : decode cX8_from 63 = .ok (.iconst 1, 1) := by decide +kernel
theorem dX8_from_64 : decode cX8_from 64 = .ok (.invokevirtual 112, 3) := by decide +kernel
theorem dX8_from_67 : decode cX8_from 67 = .ok (.goto 4, 3) := by decide +kernel
theorem dX8_from_70 : decode cX8_from 70 = .ok (.iconst 0, 1) := by decide +kernel
theorem dX8_from_71 : decode cX8_from 71 = .ok (.iadd, 1) := by decide +kernel
theorem dX8_from_72 : decode cX8_from 72 = .ok (.istore_n 3, 1) := by decide +kernel
theorem dX8_from_73 : decode cX8_from 73 = .ok (.iinc 4 1, 3) := by decide +kernel
theorem dX8_from_76 : decode cX8_from 76 = .ok (.goto (-47), 3) := by decide +kernel
theorem dX8_from_79 : decode cX8_from 79 = .ok (.iload_n 3, 1) := by decide +kernel
theorem dX8_from_80 : decode cX8_from 80 = .ok (.ireturn, 1) := by decide +kernel
theorem dX8_areTwo_0 : decode cX8_areTwo 0 = .ok (.aload_n 0, 1) := by decide +kernel
theorem dX8_areTwo_1 : decode cX8_areTwo 1 = .ok (.iload_n 1, 1) := by decide +kernel
theorem dX8_areTwo_2 : decode cX8_areTwo 2 = .ok (.invokevirtual 104, 3) := by decide +kernel
theorem dX8_areTwo_5 : decode cX8_areTwo 5 = .ok (.ifCond .eq 20, 3) := by decide +kernel
theorem dX8_areTwo_8 : decode cX8_areTwo 8 = .ok (.aload_n 0, 1) := by decide +kernel
theorem dX8_areTwo_9 : decode cX8_areTwo 9 = .ok (.iload_n 2, 1) := by decide +kernel
theorem dX8_areTwo_10 : decode cX8_areTwo 10 = .ok (.invokevirtual 104, 3) := by decide +kernel
theorem dX8_areTwo_13 : decode cX8_areTwo 13 = .ok (.ifCond .eq 12, 3) := by decide +kernel
theorem dX8_areTwo_16 : decode cX8_areTwo 16 = .ok (.iload_n 1, 1) := by decide +kernel
theorem dX8_areTwo_17 : decode cX8_areTwo 17 = .ok (.iload_n 2, 1) := by decide +kernel
theorem dX8_areTwo_18 : decode cX8_areTwo 18 = .ok (.if_icmp .eq 7, 3) := by decide +kernel
theorem dX8_areTwo_21 : decode cX8_areTwo 21 = .ok (.iconst 1, 1) := by decide +kernel
theorem dX8_areTwo_22 : decode cX8_areTwo 22 = .ok (.goto 4, 3) := by decide +kernel
theorem dX8_areTwo_25 : decode cX8_areTwo 25 = .ok (.iconst 0, 1) := by decide +kernel
theorem dX8_areTwo_26 : decode cX8_areTwo 26 = .ok (.ireturn, 1) := by decide +kernel
theorem dX8_fits_0 : decode cX8_fits 0 = .ok (.aload_n 0, 1) := by decide +kernel
theorem dX8_fits_1 : decode cX8_fits 1 = .ok (.iload_n 1, 1) := by decide +kernel
theorem dX8_fits_2 : decode cX8_fits 2 = .ok (.invokevirtual 108, 3) := by decide +kernel
theorem dX8_fits_5 : decode cX8_fits 5 = .ok (.aload_n 0, 1) := by decide +kernel
theorem dX8_fits_6 : decode cX8_fits 6 = .ok (.iload_n 2, 1) := by decide +kernel
theorem dX8_fits_7 : decode cX8_fits 7 = .ok (.invokevirtual 108, 3) := by decide +kernel
theorem dX8_fits_10 : decode cX8_fits 10 = .ok (.iadd, 1) := by decide +kernel
theorem dX8_fits_11 : decode cX8_fits 11 = .ok (.iconst 3, 1) := by decide +kernel
theorem dX8_fits_12 : decode cX8_fits 12 = .ok (.if_icmp .gt 7, 3) := by decide +kernel
theorem dX8_fits_15 : decode cX8_fits 15 = .ok (.iconst 1, 1) := by decide +kernel
theorem dX8_fits_16 : decode cX8_fits 16 = .ok (.goto 4, 3) := by decide +kernel
theorem dX8_fits_19 : decode cX8_fits 19 = .ok (.iconst 0, 1) := by decide +kernel
theorem dX8_fits_20 : decode cX8_fits 20 = .ok (.ireturn, 1) := by decide +kernel
theorem dX8_mergeNow_0 : decode cX8_mergeNow 0 = .ok (.iconst 0, 1) := by decide +kernel
theorem dX8_mergeNow_1 : decode cX8_mergeNow 1 = .ok (.istore_n 3, 1) := by decide +kernel
theorem dX8_mergeNow_2 : decode cX8_mergeNow 2 = .ok (.iload_n 3, 1) := by decide +kernel
theorem dX8_mergeNow_3 : decode cX8_mergeNow 3 = .ok (.aload_n 0, 1) := by decide +kernel
theorem dX8_mergeNow_4 : decode cX8_mergeNow 4 = .ok (.getfield 98, 3) := by decide +kernel
theorem dX8_mergeNow_7 : decode cX8_mergeNow 7 = .ok (.if_icmp .ge 35, 3) := by decide +kernel
theorem dX8_mergeNow_10 : decode cX8_mergeNow 10 = .ok (.aload_n 0, 1) := by decide +kernel
theorem dX8_mergeNow_11 : decode cX8_mergeNow 11 = .ok (.getfield 20, 3) := by decide +kernel
theorem dX8_mergeNow_14 : decode cX8_mergeNow 14 = .ok (.iload_n 3, 1) := by decide +kernel
theorem dX8_mergeNow_15 : decode cX8_mergeNow 15 = .ok (.aload_n 0, 1) := by decide +kernel
theorem dX8_mergeNow_16 : decode cX8_mergeNow 16 = .ok (.getfield 20, 3) := by decide +kernel
theorem dX8_mergeNow_19 : decode cX8_mergeNow 19 = .ok (.iload_n 3, 1) := by decide +kernel
theorem dX8_mergeNow_20 : decode cX8_mergeNow 20 = .ok (.iaload, 1) := by decide +kernel
theorem dX8_mergeNow_21 : decode cX8_mergeNow 21 = .ok (.iload_n 2, 1) := by decide +kernel
theorem dX8_mergeNow_22 : decode cX8_mergeNow 22 = .ok (.if_icmp .ne 7, 3) := by decide +kernel
theorem dX8_mergeNow_25 : decode cX8_mergeNow 25 = .ok (.iload_n 1, 1) := by decide +kernel
theorem dX8_mergeNow_26 : decode cX8_mergeNow 26 = .ok (.goto 9, 3) := by decide +kernel
theorem dX8_mergeNow_29 : decode cX8_mergeNow 29 = .ok (.aload_n 0, 1) := by decide +kernel
theorem dX8_mergeNow_30 : decode cX8_mergeNow 30 = .ok (.getfield 20, 3) := by decide +kernel
theorem dX8_mergeNow_33 : decode cX8_mergeNow 33 = .ok (.iload_n 3, 1) := by decide +kernel
theorem dX8_mergeNow_34 : decode cX8_mergeNow 34 = .ok (.iaload, 1) := by decide +kernel
theorem dX8_mergeNow_35 : decode cX8_mergeNow 35 = .ok (.iastore, 1) := by decide +kernel
theorem dX8_mergeNow_36 : decode cX8_mergeNow 36 = .ok (.iinc 3 1, 3) := by decide +kernel
theorem dX8_mergeNow_39 : decode cX8_mergeNow 39 = .ok (.goto (-37), 3) := by decide +kernel
theorem dX8_mergeNow_42 : decode cX8_mergeNow 42 = .ok (.return_, 1) := by decide +kernel
theorem dX8_merge_0 : decode cX8_merge 0 = .ok (.aload_n 0, 1) := by decide +kernel
theorem dX8_merge_1 : decode cX8_merge 1 = .ok (.iload_n 1, 1) := by decide +kernel
theorem dX8_merge_2 : decode cX8_merge 2 = .ok (.iload_n 2, 1) := by decide +kernel
theorem dX8_merge_3 : decode cX8_merge 3 = .ok (.invokevirtual 200, 3) := by decide +kernel
theorem dX8_merge_6 : decode cX8_merge 6 = .ok (.ifCond .ne 6, 3) := by decide +kernel
theorem dX8_merge_9 : decode cX8_merge 9 = .ok (.bipush (-101), 2) := by decide +kernel
theorem dX8_merge_11 : decode cX8_merge 11 = .ok (.ireturn, 1) := by decide +kernel
theorem dX8_merge_12 : decode cX8_merge 12 = .ok (.aload_n 0, 1) := by decide +kernel
theorem dX8_merge_13 : decode cX8_merge 13 = .ok (.iload_n 1, 1) := by decide +kernel
theorem dX8_merge_14 : decode cX8_merge 14 = .ok (.iload_n 2, 1) := by decide +kernel
theorem dX8_merge_15 : decode cX8_merge 15 = .ok (.invokevirtual 203, 3) := by decide +kernel
theorem dX8_merge_18 : decode cX8_merge 18 = .ok (.ifCond .ne 6, 3) := by decide +kernel
theorem dX8_merge_21 : decode cX8_merge 21 = .ok (.bipush (-103), 2) := by decide +kernel
theorem dX8_merge_23 : decode cX8_merge 23 = .ok (.ireturn, 1) := by decide +kernel
theorem dX8_merge_24 : decode cX8_merge 24 = .ok (.aload_n 0, 1) := by decide +kernel
theorem dX8_merge_25 : decode cX8_merge 25 = .ok (.iload_n 1, 1) := by decide +kernel
theorem dX8_merge_26 : decode cX8_merge 26 = .ok (.iload_n 2, 1) := by decide +kernel
theorem dX8_merge_27 : decode cX8_merge 27 = .ok (.invokevirtual 206, 3) := by decide +kernel
theorem dX8_merge_30 : decode cX8_merge 30 = .ok (.aload_n 0, 1) := by decide +kernel
theorem dX8_merge_31 : decode cX8_merge 31 = .ok (.iload_n 1, 1) := by decide +kernel
theorem dX8_merge_32 : decode cX8_merge 32 = .ok (.invokevirtual 108, 3) := by decide +kernel
theorem dX8_merge_35 : decode cX8_merge 35 = .ok (.ireturn, 1) := by decide +kernel
theorem dX8_layBefore_0 : decode cX8_layBefore 0 = .ok (.aload_n 0, 1) := by decide +kernel
theorem dX8_layBefore_1 : decode cX8_layBefore 1 = .ok (.invokevirtual 166, 3) := by decide +kernel
theorem dX8_layBefore_4 : decode cX8_layBefore 4 = .ok (.aload_n 0, 1) := by decide +kernel
theorem dX8_layBefore_5 : decode cX8_layBefore 5 = .ok (.invokevirtual 169, 3) := by decide +kernel
theorem dX8_layBefore_8 : decode cX8_layBefore 8 = .ok (.iconst (-1), 1) := by decide +kernel
theorem dX8_layBefore_9 : decode cX8_layBefore 9 = .ok (.if_icmp .eq 7, 3) := by decide +kernel
theorem dX8_layBefore_12 : decode cX8_layBefore 12 = .ok (.iconst 1, 1) := by decide +kernel
theorem dX8_layBefore_13 : decode cX8_layBefore 13 = .ok (.goto 4, 3) := by decide +kernel
theorem dX8_layBefore_16 : decode cX8_layBefore 16 = .ok (.iconst 0, 1) := by decide +kernel
theorem dX8_layBefore_17 : decode cX8_layBefore 17 = .ok (.istore_n 1, 1) := by decide +kernel
theorem dX8_layBefore_18 : decode cX8_layBefore 18 = .ok (.iconst 0, 1) := by decide +kernel
theorem dX8_layBefore_19 : decode cX8_layBefore 19 = .ok (.istore_n 2, 1) := by decide +kernel
theorem dX8_layBefore_20 : decode cX8_layBefore 20 = .ok (.iload_n 2, 1) := by decide +kernel
theorem dX8_layBefore_21 : decode cX8_layBefore 21 = .ok (.aload_n 0, 1) := by decide +kernel
theorem dX8_layBefore_22 : decode cX8_layBefore 22 = .ok (.getfield 101, 3) := by decide +kernel
theorem dX8_layBefore_25 : decode cX8_layBefore 25 = .ok (.if_icmp .ge 20, 3) := by decide +kernel
theorem dX8_layBefore_28 : decode cX8_layBefore 28 = .ok (.aload_n 0, 1) := by decide +kernel
theorem dX8_layBefore_29 : decode cX8_layBefore 29 = .ok (.getfield 76, 3) := by decide +kernel
theorem dX8_layBefore_32 : decode cX8_layBefore 32 = .ok (.iload_n 2, 1) := by decide +kernel
theorem dX8_layBefore_33 : decode cX8_layBefore 33 = .ok (.aload_n 0, 1) := by decide +kernel
theorem dX8_layBefore_34 : decode cX8_layBefore 34 = .ok (.iload_n 2, 1) := by decide +kernel
theorem dX8_layBefore_35 : decode cX8_layBefore 35 = .ok (.invokevirtual 141, 3) := by decide +kernel
theorem dX8_layBefore_38 : decode cX8_layBefore 38 = .ok (.iastore, 1) := by decide +kernel
theorem dX8_layBefore_39 : decode cX8_layBefore 39 = .ok (.iinc 2 1, 3) := by decide +kernel
theorem dX8_layBefore_42 : decode cX8_layBefore 42 = .ok (.goto (-22), 3) := by decide +kernel
theorem dX8_layBefore_45 : decode cX8_layBefore 45 = .ok (.aload_n 0, 1) := by decide +kernel
theorem dX8_layBefore_46 : decode cX8_layBefore 46 = .ok (.invokevirtual 172, 3) := by decide +kernel
theorem dX8_layBefore_49 : decode cX8_layBefore 49 = .ok (.iload_n 1, 1) := by decide +kernel
theorem dX8_layBefore_50 : decode cX8_layBefore 50 = .ok (.ireturn, 1) := by decide +kernel
theorem dX8_layBehind_0 : decode cX8_layBehind 0 = .ok (.aload_n 0, 1) := by decide +kernel
theorem dX8_layBehind_1 : decode cX8_layBehind 1 = .ok (.invokevirtual 166, 3) := by decide +kernel
theorem dX8_layBehind_4 : decode cX8_layBehind 4 = .ok (.aload_n 0, 1) := by decide +kernel
theorem dX8_layBehind_5 : decode cX8_layBehind 5 = .ok (.iload_n 1, 1) := by decide +kernel
theorem dX8_layBehind_6 : decode cX8_layBehind 6 = .ok (.iload_n 2, 1) := by decide +kernel
theorem dX8_layBehind_7 : decode cX8_layBehind 7 = .ok (.invokevirtual 206, 3) := by decide +kernel
theorem dX8_layBehind_10 : decode cX8_layBehind 10 = .ok (.iload_n 3, 1) := by decide +kernel
theorem dX8_layBehind_11 : decode cX8_layBehind 11 = .ok (.iconst (-1), 1) := by decide +kernel
theorem dX8_layBehind_12 : decode cX8_layBehind 12 = .ok (.if_icmp .eq 10, 3) := by decide +kernel
theorem dX8_layBehind_15 : decode cX8_layBehind 15 = .ok (.aload_n 0, 1) := by decide +kernel
theorem dX8_layBehind_16 : decode cX8_layBehind 16 = .ok (.iload_n 3, 1) := by decide +kernel
theorem dX8_layBehind_17 : decode cX8_layBehind 17 = .ok (.iload 4, 2) := by decide +kernel
theorem dX8_layBehind_19 : decode cX8_layBehind 19 = .ok (.invokevirtual 206, 3) := by decide +kernel
theorem dX8_layBehind_22 : decode cX8_layBehind 22 = .ok (.iconst 0, 1) := by decide +kernel
theorem dX8_layBehind_23 : decode cX8_layBehind 23 = .ok (.istore 7, 2) := by decide +kernel
theorem dX8_layBehind_25 : decode cX8_layBehind 25 = .ok (.iload 7, 2) := by decide +kernel
theorem dX8_layBehind_27 : decode cX8_layBehind 27 = .ok (.aload_n 0, 1) := by decide +kernel
theorem dX8_layBehind_28 : decode cX8_layBehind 28 = .ok (.getfield 98, 3) := by decide +kernel
theorem dX8_layBehind_31 : decode cX8_layBehind 31 = .ok (.if_icmp .ge 39, 3) := by decide +kernel
theorem dX8_layBehind_34 : decode cX8_layBehind 34 = .ok (.aload_n 0, 1) := by decide +kernel
theorem dX8_layBehind_35 : decode cX8_layBehind 35 = .ok (.getfield 20, 3) := by decide +kernel
theorem dX8_layBehind_38 : decode cX8_layBehind 38 = .ok (.iload 7, 2) := by decide +kernel
theorem dX8_layBehind_40 : decode cX8_layBehind 40 = .ok (.iload 5, 2) := by decide +kernel
theorem dX8_layBehind_42 : decode cX8_layBehind 42 = .ok (.iload 7, 2) := by decide +kernel
theorem dX8_layBehind_44 : decode cX8_layBehind 44 = .ok (.ishr, 1) := by decide +kernel
theorem dX8_layBehind_45 : decode cX8_layBehind 45 = .ok (.iconst 1, 1) := by decide +kernel
theorem dX8_layBehind_46 : decode cX8_layBehind 46 = .ok (.iand, 1) := by decide +kernel
theorem dX8_layBehind_47 : decode cX8_layBehind 47 = .ok (.iconst 1, 1) := by decide +kernel
theorem dX8_layBehind_48 : decode cX8_layBehind 48 = .ok (.if_icmp .ne 8, 3) := by decide +kernel
theorem dX8_layBehind_51 : decode cX8_layBehind 51 = .ok (.iload 6, 2) := by decide +kernel
theorem dX8_layBehind_53 : decode cX8_layBehind 53 = .ok (.goto 10, 3) := by decide +kernel
theorem dX8_layBehind_56 : decode cX8_layBehind 56 = .ok (.aload_n 0, 1) := by decide +kernel
theorem dX8_layBehind_57 : decode cX8_layBehind 57 = .ok (.getfield 20, 3) := by decide +kernel
theorem dX8_layBehind_60 : decode cX8_layBehind 60 = .ok (.iload 7, 2) := by decide +kernel
theorem dX8_layBehind_62 : decode cX8_layBehind 62 = .ok (.iaload, 1) := by decide +kernel
theorem dX8_layBehind_63 : decode cX8_layBehind 63 = .ok (.iastore, 1) := by decide +kernel
theorem dX8_layBehind_64 : decode cX8_layBehind 64 = .ok (.iinc 7 1, 3) := by decide +kernel
theorem dX8_layBehind_67 : decode cX8_layBehind 67 = .ok (.goto (-42), 3) := by decide +kernel
theorem dX8_layBehind_70 : decode cX8_layBehind 70 = .ok (.aload_n 0, 1) := by decide +kernel
theorem dX8_layBehind_71 : decode cX8_layBehind 71 = .ok (.aload_n 0, 1) := by decide +kernel
theorem dX8_layBehind_72 : decode cX8_layBehind 72 = .ok (.invokevirtual 169, 3) := by decide +kernel
theorem dX8_layBehind_75 : decode cX8_layBehind 75 = .ok (.putfield 210, 3) := by decide +kernel
theorem dX8_layBehind_78 : decode cX8_layBehind 78 = .ok (.iconst 0, 1) := by decide +kernel
theorem dX8_layBehind_79 : decode cX8_layBehind 79 = .ok (.istore 7, 2) := by decide +kernel
theorem dX8_layBehind_81 : decode cX8_layBehind 81 = .ok (.iload 7, 2) := by decide +kernel
theorem dX8_layBehind_83 : decode cX8_layBehind 83 = .ok (.aload_n 0, 1) := by decide +kernel
theorem dX8_layBehind_84 : decode cX8_layBehind 84 = .ok (.getfield 101, 3) := by decide +kernel
theorem dX8_layBehind_87 : decode cX8_layBehind 87 = .ok (.if_icmp .ge 22, 3) := by decide +kernel
theorem dX8_layBehind_90 : decode cX8_layBehind 90 = .ok (.aload_n 0, 1) := by decide +kernel
theorem dX8_layBehind_91 : decode cX8_layBehind 91 = .ok (.getfield 79, 3) := by decide +kernel
theorem dX8_layBehind_94 : decode cX8_layBehind 94 = .ok (.iload 7, 2) := by decide +kernel
theorem dX8_layBehind_96 : decode cX8_layBehind 96 = .ok (.aload_n 0, 1) := by decide +kernel
theorem dX8_layBehind_97 : decode cX8_layBehind 97 = .ok (.iload 7, 2) := by decide +kernel
theorem dX8_layBehind_99 : decode cX8_layBehind 99 = .ok (.invokevirtual 141, 3) := by decide +kernel
theorem dX8_layBehind_102 : decode cX8_layBehind 102 = .ok (.iastore, 1) := by decide +kernel
theorem dX8_layBehind_103 : decode cX8_layBehind 103 = .ok (.iinc 7 1, 3) := by decide +kernel
theorem dX8_layBehind_106 : decode cX8_layBehind 106 = .ok (.goto (-25), 3) := by decide +kernel
theorem dX8_layBehind_109 : decode cX8_layBehind 109 = .ok (.aload_n 0, 1) := by decide +kernel
theorem dX8_layBehind_110 : decode cX8_layBehind 110 = .ok (.invokevirtual 172, 3) := by decide +kernel
theorem dX8_layBehind_113 : decode cX8_layBehind 113 = .ok (.aload_n 0, 1) := by decide +kernel
theorem dX8_layBehind_114 : decode cX8_layBehind 114 = .ok (.getfield 210, 3) := by decide +kernel
theorem dX8_layBehind_117 : decode cX8_layBehind 117 = .ok (.iconst (-1), 1) := by decide +kernel
theorem dX8_layBehind_118 : decode cX8_layBehind 118 = .ok (.if_icmp .eq 7, 3) := by decide +kernel
theorem dX8_layBehind_121 : decode cX8_layBehind 121 = .ok (.iconst 1, 1) := by decide +kernel
theorem dX8_layBehind_122 : decode cX8_layBehind 122 = .ok (.goto 4, 3) := by decide +kernel
theorem dX8_layBehind_125 : decode cX8_layBehind 125 = .ok (.iconst 0, 1) := by decide +kernel
theorem dX8_layBehind_126 : decode cX8_layBehind 126 = .ok (.ireturn, 1) := by decide +kernel
theorem dX8_harmNow_0 : decode cX8_harmNow 0 = .ok (.iconst 0, 1) := by decide +kernel
theorem dX8_harmNow_1 : decode cX8_harmNow 1 = .ok (.istore_n 2, 1) := by decide +kernel
theorem dX8_harmNow_2 : decode cX8_harmNow 2 = .ok (.iconst 0, 1) := by decide +kernel
theorem dX8_harmNow_3 : decode cX8_harmNow 3 = .ok (.istore_n 3, 1) := by decide +kernel
theorem dX8_harmNow_4 : decode cX8_harmNow 4 = .ok (.iconst 0, 1) := by decide +kernel
theorem dX8_harmNow_5 : decode cX8_harmNow 5 = .ok (.istore 4, 2) := by decide +kernel
theorem dX8_harmNow_7 : decode cX8_harmNow 7 = .ok (.iload 4, 2) := by decide +kernel
theorem dX8_harmNow_9 : decode cX8_harmNow 9 = .ok (.aload_n 0, 1) := by decide +kernel
theorem dX8_harmNow_10 : decode cX8_harmNow 10 = .ok (.getfield 101, 3) := by decide +kernel
theorem dX8_harmNow_13 : decode cX8_harmNow 13 = .ok (.if_icmp .ge 64, 3) := by decide +kernel
theorem dX8_harmNow_16 : decode cX8_harmNow 16 = .ok (.aload_n 0, 1) := by decide +kernel
theorem dX8_harmNow_17 : decode cX8_harmNow 17 = .ok (.getfield 76, 3) := by decide +kernel
theorem dX8_harmNow_20 : decode cX8_harmNow 20 = .ok (.iload 4, 2) := by decide +kernel
theorem dX8_harmNow_22 : decode cX8_harmNow 22 = .ok (.iaload, 1) := by decide +kernel
theorem dX8_harmNow_23 : decode cX8_harmNow 23 = .ok (.aload_n 0, 1) := by decide +kernel
theorem dX8_harmNow_24 : decode cX8_harmNow 24 = .ok (.getfield 79, 3) := by decide +kernel
theorem dX8_harmNow_27 : decode cX8_harmNow 27 = .ok (.iload 4, 2) := by decide +kernel
theorem dX8_harmNow_29 : decode cX8_harmNow 29 = .ok (.iaload, 1) := by decide +kernel
theorem dX8_harmNow_30 : decode cX8_harmNow 30 = .ok (.isub, 1) := by decide +kernel
theorem dX8_harmNow_31 : decode cX8_harmNow 31 = .ok (.istore 5, 2) := by decide +kernel
theorem dX8_harmNow_33 : decode cX8_harmNow 33 = .ok (.iload_n 2, 1) := by decide +kernel
theorem dX8_harmNow_34 : decode cX8_harmNow 34 = .ok (.iload 5, 2) := by decide +kernel
theorem dX8_harmNow_36 : decode cX8_harmNow 36 = .ok (.ifCond .le 16, 3) := by decide +kernel
theorem dX8_harmNow_39 : decode cX8_harmNow 39 = .ok (.iload 5, 2) := by decide +kernel
theorem dX8_harmNow_41 : decode cX8_harmNow 41 = .ok (.aload_n 0, 1) := by decide +kernel
theorem dX8_harmNow_42 : decode cX8_harmNow 42 = .ok (.iload 4, 2) := by decide +kernel
theorem dX8_harmNow_44 : decode cX8_harmNow 44 = .ok (.iconst 1, 1) := by decide +kernel
theorem dX8_harmNow_45 : decode cX8_harmNow 45 = .ok (.invokevirtual 112, 3) := by decide +kernel
theorem dX8_harmNow_48 : decode cX8_harmNow 48 = .ok (.imul, 1) := by decide +kernel
theorem dX8_harmNow_49 : decode cX8_harmNow 49 = .ok (.goto 4, 3) := by decide +kernel
theorem dX8_harmNow_52 : decode cX8_harmNow 52 = .ok (.iconst 0, 1) := by decide +kernel
theorem dX8_harmNow_53 : decode cX8_harmNow 53 = .ok (.iadd, 1) := by decide +kernel
theorem dX8_harmNow_54 : decode cX8_harmNow 54 = .ok (.istore_n 2, 1) := by decide +kernel
theorem dX8_harmNow_55 : decode cX8_harmNow 55 = .ok (.iload_n 3, 1) := by decide +kernel
theorem dX8_harmNow_56 : decode cX8_harmNow 56 = .ok (.iload 5, 2) := by decide +kernel
theorem dX8_harmNow_58 : decode cX8_harmNow 58 = .ok (.ifCond .le 10, 3) := by decide +kernel
theorem dX8_harmNow_61 : decode cX8_harmNow 61 = .ok (.iconst 1, 1) := by decide +kernel
theorem dX8_harmNow_62 : decode cX8_harmNow 62 = .ok (.iload 4, 2) := by decide +kernel
theorem dX8_harmNow_64 : decode cX8_harmNow 64 = .ok (.ishl, 1) := by decide +kernel
theorem dX8_harmNow_65 : decode cX8_harmNow 65 = .ok (.goto 4, 3) := by decide +kernel
theorem dX8_harmNow_68 : decode cX8_harmNow 68 = .ok (.iconst 0, 1) := by decide +kernel
theorem dX8_harmNow_69 : decode cX8_harmNow 69 = .ok (.ior, 1) := by decide +kernel
theorem dX8_harmNow_70 : decode cX8_harmNow 70 = .ok (.istore_n 3, 1) := by decide +kernel
theorem dX8_harmNow_71 : decode cX8_harmNow 71 = .ok (.iinc 4 1, 3) := by decide +kernel
theorem dX8_harmNow_74 : decode cX8_harmNow 74 = .ok (.goto (-67), 3) := by decide +kernel
theorem dX8_harmNow_77 : decode cX8_harmNow 77 = .ok (.iload_n 1, 1) := by decide +kernel
theorem dX8_harmNow_78 : decode cX8_harmNow 78 = .ok (.ifCond .eq 7, 3) := by decide +kernel
theorem dX8_harmNow_81 : decode cX8_harmNow 81 = .ok (.iload_n 3, 1) := by decide +kernel
theorem dX8_harmNow_82 : decode cX8_harmNow 82 = .ok (.goto 4, 3) := by decide +kernel
theorem dX8_harmNow_85 : decode cX8_harmNow 85 = .ok (.iload_n 2, 1) := by decide +kernel
theorem dX8_harmNow_86 : decode cX8_harmNow 86 = .ok (.ireturn, 1) := by decide +kernel
theorem dX8_dearer_0 : decode cX8_dearer 0 = .ok (.aload_n 0, 1) := by decide +kernel
theorem dX8_dearer_1 : decode cX8_dearer 1 = .ok (.iload_n 1, 1) := by decide +kernel
theorem dX8_dearer_2 : decode cX8_dearer 2 = .ok (.iload_n 2, 1) := by decide +kernel
theorem dX8_dearer_3 : decode cX8_dearer 3 = .ok (.invokevirtual 200, 3) := by decide +kernel
theorem dX8_dearer_6 : decode cX8_dearer 6 = .ok (.ifCond .eq 11, 3) := by decide +kernel
theorem dX8_dearer_9 : decode cX8_dearer 9 = .ok (.aload_n 0, 1) := by decide +kernel
theorem dX8_dearer_10 : decode cX8_dearer 10 = .ok (.iload_n 3, 1) := by decide +kernel
theorem dX8_dearer_11 : decode cX8_dearer 11 = .ok (.invokevirtual 138, 3) := by decide +kernel
theorem dX8_dearer_14 : decode cX8_dearer 14 = .ok (.ifCond .ne 7, 3) := by decide +kernel
theorem dX8_dearer_17 : decode cX8_dearer 17 = .ok (.sipush (-1001), 3) := by decide +kernel
theorem dX8_dearer_20 : decode cX8_dearer 20 = .ok (.ireturn, 1) := by decide +kernel
theorem dX8_dearer_21 : decode cX8_dearer 21 = .ok (.aload_n 0, 1) := by decide +kernel
theorem dX8_dearer_22 : decode cX8_dearer 22 = .ok (.iload_n 1, 1) := by decide +kernel
theorem dX8_dearer_23 : decode cX8_dearer 23 = .ok (.iload_n 2, 1) := by decide +kernel
theorem dX8_dearer_24 : decode cX8_dearer 24 = .ok (.invokevirtual 203, 3) := by decide +kernel
theorem dX8_dearer_27 : decode cX8_dearer 27 = .ok (.ifCond .eq 27, 3) := by decide +kernel
theorem dX8_dearer_30 : decode cX8_dearer 30 = .ok (.aload_n 0, 1) := by decide +kernel
theorem dX8_dearer_31 : decode cX8_dearer 31 = .ok (.invokevirtual 213, 3) := by decide +kernel
theorem dX8_dearer_34 : decode cX8_dearer 34 = .ok (.ifCond .eq 20, 3) := by decide +kernel
theorem dX8_dearer_37 : decode cX8_dearer 37 = .ok (.aload_n 0, 1) := by decide +kernel
theorem dX8_dearer_38 : decode cX8_dearer 38 = .ok (.iload_n 1, 1) := by decide +kernel
theorem dX8_dearer_39 : decode cX8_dearer 39 = .ok (.iload_n 2, 1) := by decide +kernel
theorem dX8_dearer_40 : decode cX8_dearer 40 = .ok (.iconst (-1), 1) := by decide +kernel
theorem dX8_dearer_41 : decode cX8_dearer 41 = .ok (.iconst (-1), 1) := by decide +kernel
theorem dX8_dearer_42 : decode cX8_dearer 42 = .ok (.iconst 0, 1) := by decide +kernel
theorem dX8_dearer_43 : decode cX8_dearer 43 = .ok (.iconst (-1), 1) := by decide +kernel
theorem dX8_dearer_44 : decode cX8_dearer 44 = .ok (.invokevirtual 217, 3) := by decide +kernel
theorem dX8_dearer_47 : decode cX8_dearer 47 = .ok (.ifCond .eq 7, 3) := by decide +kernel
theorem dX8_dearer_50 : decode cX8_dearer 50 = .ok (.iconst 1, 1) := by decide +kernel
theorem dX8_dearer_51 : decode cX8_dearer 51 = .ok (.goto 4, 3) := by decide +kernel
theorem dX8_dearer_54 : decode cX8_dearer 54 = .ok (.iconst 0, 1) := by decide +kernel
theorem dX8_dearer_55 : decode cX8_dearer 55 = .ok (.istore 4, 2) := by decide +kernel
theorem dX8_dearer_57 : decode cX8_dearer 57 = .ok (.iload 4, 2) := by decide +kernel
theorem dX8_dearer_59 : decode cX8_dearer 59 = .ok (.ifCond .eq 19, 3) := by decide +kernel
theorem dX8_dearer_62 : decode cX8_dearer 62 = .ok (.aload_n 0, 1) := by decide +kernel
theorem dX8_dearer_63 : decode cX8_dearer 63 = .ok (.getfield 76, 3) := by decide +kernel
theorem dX8_dearer_66 : decode cX8_dearer 66 = .ok (.iload_n 3, 1) := by decide +kernel
theorem dX8_dearer_67 : decode cX8_dearer 67 = .ok (.iaload, 1) := by decide +kernel
theorem dX8_dearer_68 : decode cX8_dearer 68 = .ok (.aload_n 0, 1) := by decide +kernel
theorem dX8_dearer_69 : decode cX8_dearer 69 = .ok (.getfield 79, 3) := by decide +kernel
theorem dX8_dearer_72 : decode cX8_dearer 72 = .ok (.iload_n 3, 1) := by decide +kernel
theorem dX8_dearer_73 : decode cX8_dearer 73 = .ok (.iaload, 1) := by decide +kernel
theorem dX8_dearer_74 : decode cX8_dearer 74 = .ok (.isub, 1) := by decide +kernel
theorem dX8_dearer_75 : decode cX8_dearer 75 = .ok (.goto 6, 3) := by decide +kernel
theorem dX8_dearer_78 : decode cX8_dearer 78 = .ok (.sipush (-1002), 3) := by decide +kernel
theorem dX8_dearer_81 : decode cX8_dearer 81 = .ok (.ireturn, 1) := by decide +kernel
theorem dX8_harm_0 : decode cX8_harm 0 = .ok (.aload_n 0, 1) := by decide +kernel
theorem dX8_harm_1 : decode cX8_harm 1 = .ok (.iload_n 1, 1) := by decide +kernel
theorem dX8_harm_2 : decode cX8_harm 2 = .ok (.iload_n 2, 1) := by decide +kernel
theorem dX8_harm_3 : decode cX8_harm 3 = .ok (.invokevirtual 200, 3) := by decide +kernel
theorem dX8_harm_6 : decode cX8_harm 6 = .ok (.ifCond .ne 6, 3) := by decide +kernel
theorem dX8_harm_9 : decode cX8_harm 9 = .ok (.bipush (-101), 2) := by decide +kernel
theorem dX8_harm_11 : decode cX8_harm 11 = .ok (.ireturn, 1) := by decide +kernel
theorem dX8_harm_12 : decode cX8_harm 12 = .ok (.iload_n 3, 1) := by decide +kernel
theorem dX8_harm_13 : decode cX8_harm 13 = .ok (.iconst 0, 1) := by decide +kernel
theorem dX8_harm_14 : decode cX8_harm 14 = .ok (.iconst 2, 1) := by decide +kernel
theorem dX8_harm_15 : decode cX8_harm 15 = .ok (.invokestatic 94, 3) := by decide +kernel
theorem dX8_harm_18 : decode cX8_harm 18 = .ok (.ifCond .ne 6, 3) := by decide +kernel
theorem dX8_harm_21 : decode cX8_harm 21 = .ok (.bipush (-102), 2) := by decide +kernel
theorem dX8_harm_23 : decode cX8_harm 23 = .ok (.ireturn, 1) := by decide +kernel
theorem dX8_harm_24 : decode cX8_harm 24 = .ok (.aload_n 0, 1) := by decide +kernel
theorem dX8_harm_25 : decode cX8_harm 25 = .ok (.iload_n 1, 1) := by decide +kernel
theorem dX8_harm_26 : decode cX8_harm 26 = .ok (.iload_n 2, 1) := by decide +kernel
theorem dX8_harm_27 : decode cX8_harm 27 = .ok (.invokevirtual 203, 3) := by decide +kernel
theorem dX8_harm_30 : decode cX8_harm 30 = .ok (.ifCond .ne 6, 3) := by decide +kernel
theorem dX8_harm_33 : decode cX8_harm 33 = .ok (.bipush (-103), 2) := by decide +kernel
theorem dX8_harm_35 : decode cX8_harm 35 = .ok (.ireturn, 1) := by decide +kernel
theorem dX8_harm_36 : decode cX8_harm 36 = .ok (.aload_n 0, 1) := by decide +kernel
theorem dX8_harm_37 : decode cX8_harm 37 = .ok (.invokevirtual 213, 3) := by decide +kernel
theorem dX8_harm_40 : decode cX8_harm 40 = .ok (.ifCond .eq 16, 3) := by decide +kernel
theorem dX8_harm_43 : decode cX8_harm 43 = .ok (.aload_n 0, 1) := by decide +kernel
theorem dX8_harm_44 : decode cX8_harm 44 = .ok (.iload_n 1, 1) := by decide +kernel
theorem dX8_harm_45 : decode cX8_harm 45 = .ok (.iload_n 2, 1) := by decide +kernel
theorem dX8_harm_46 : decode cX8_harm 46 = .ok (.iconst (-1), 1) := by decide +kernel
theorem dX8_harm_47 : decode cX8_harm 47 = .ok (.iconst (-1), 1) := by decide +kernel
theorem dX8_harm_48 : decode cX8_harm 48 = .ok (.iconst 0, 1) := by decide +kernel
theorem dX8_harm_49 : decode cX8_harm 49 = .ok (.iconst (-1), 1) := by decide +kernel
theorem dX8_harm_50 : decode cX8_harm 50 = .ok (.invokevirtual 217, 3) := by decide +kernel
theorem dX8_harm_53 : decode cX8_harm 53 = .ok (.ifCond .ne 5, 3) := by decide +kernel
theorem dX8_harm_56 : decode cX8_harm 56 = .ok (.iconst (-1), 1) := by decide +kernel
theorem dX8_harm_57 : decode cX8_harm 57 = .ok (.ireturn, 1) := by decide +kernel
theorem dX8_harm_58 : decode cX8_harm 58 = .ok (.iload_n 3, 1) := by decide +kernel
theorem dX8_harm_59 : decode cX8_harm 59 = .ok (.iconst 2, 1) := by decide +kernel
theorem dX8_harm_60 : decode cX8_harm 60 = .ok (.if_icmp .ne 10, 3) := by decide +kernel
theorem dX8_harm_63 : decode cX8_harm 63 = .ok (.aload_n 0, 1) := by decide +kernel
theorem dX8_harm_64 : decode cX8_harm 64 = .ok (.getfield 210, 3) := by decide +kernel
theorem dX8_harm_67 : decode cX8_harm 67 = .ok (.goto 17, 3) := by decide +kernel
theorem dX8_harm_70 : decode cX8_harm 70 = .ok (.aload_n 0, 1) := by decide +kernel
theorem dX8_harm_71 : decode cX8_harm 71 = .ok (.iload_n 3, 1) := by decide +kernel
theorem dX8_harm_72 : decode cX8_harm 72 = .ok (.iconst 1, 1) := by decide +kernel
theorem dX8_harm_73 : decode cX8_harm 73 = .ok (.if_icmp .ne 7, 3) := by decide +kernel
theorem dX8_harm_76 : decode cX8_harm 76 = .ok (.iconst 1, 1) := by decide +kernel
theorem dX8_harm_77 : decode cX8_harm 77 = .ok (.goto 4, 3) := by decide +kernel
theorem dX8_harm_80 : decode cX8_harm 80 = .ok (.iconst 0, 1) := by decide +kernel
theorem dX8_harm_81 : decode cX8_harm 81 = .ok (.invokevirtual 221, 3) := by decide +kernel
theorem dX8_harm_84 : decode cX8_harm 84 = .ok (.ireturn, 1) := by decide +kernel
theorem dX8_isBelow_0 : decode cX8_isBelow 0 = .ok (.iconst 1, 1) := by decide +kernel
theorem dX8_isBelow_1 : decode cX8_isBelow 1 = .ok (.istore_n 2, 1) := by decide +kernel
theorem dX8_isBelow_2 : decode cX8_isBelow 2 = .ok (.iconst 0, 1) := by decide +kernel
theorem dX8_isBelow_3 : decode cX8_isBelow 3 = .ok (.istore_n 3, 1) := by decide +kernel
theorem dX8_isBelow_4 : decode cX8_isBelow 4 = .ok (.iload_n 3, 1) := by decide +kernel
theorem dX8_isBelow_5 : decode cX8_isBelow 5 = .ok (.aload_n 0, 1) := by decide +kernel
theorem dX8_isBelow_6 : decode cX8_isBelow 6 = .ok (.getfield 101, 3) := by decide +kernel
theorem dX8_isBelow_9 : decode cX8_isBelow 9 = .ok (.if_icmp .ge 36, 3) := by decide +kernel
theorem dX8_isBelow_12 : decode cX8_isBelow 12 = .ok (.iload_n 2, 1) := by decide +kernel
theorem dX8_isBelow_13 : decode cX8_isBelow 13 = .ok (.ifCond .eq 24, 3) := by decide +kernel
theorem dX8_isBelow_16 : decode cX8_isBelow 16 = .ok (.aload_n 0, 1) := by decide +kernel
theorem dX8_isBelow_17 : decode cX8_isBelow 17 = .ok (.getfield 76, 3) := by decide +kernel
theorem dX8_isBelow_20 : decode cX8_isBelow 20 = .ok (.iload_n 3, 1) := by decide +kernel
theorem dX8_isBelow_21 : decode cX8_isBelow 21 = .ok (.iaload, 1) := by decide +kernel
theorem dX8_isBelow_22 : decode cX8_isBelow 22 = .ok (.aload_n 0, 1) := by decide +kernel
theorem dX8_isBelow_23 : decode cX8_isBelow 23 = .ok (.getfield 79, 3) := by decide +kernel
theorem dX8_isBelow_26 : decode cX8_isBelow 26 = .ok (.iload_n 3, 1) := by decide +kernel
theorem dX8_isBelow_27 : decode cX8_isBelow 27 = .ok (.iaload, 1) := by decide +kernel
theorem dX8_isBelow_28 : decode cX8_isBelow 28 = .ok (.isub, 1) := by decide +kernel
theorem dX8_isBelow_29 : decode cX8_isBelow 29 = .ok (.iload_n 1, 1) := by decide +kernel
theorem dX8_isBelow_30 : decode cX8_isBelow 30 = .ok (.if_icmp .gt 7, 3) := by decide +kernel
theorem dX8_isBelow_33 : decode cX8_isBelow 33 = .ok (.iconst 1, 1) := by decide +kernel
theorem dX8_isBelow_34 : decode cX8_isBelow 34 = .ok (.goto 4, 3) := by decide +kernel
theorem dX8_isBelow_37 : decode cX8_isBelow 37 = .ok (.iconst 0, 1) := by decide +kernel
theorem dX8_isBelow_38 : decode cX8_isBelow 38 = .ok (.istore_n 2, 1) := by decide +kernel
theorem dX8_isBelow_39 : decode cX8_isBelow 39 = .ok (.iinc 3 1, 3) := by decide +kernel
theorem dX8_isBelow_42 : decode cX8_isBelow 42 = .ok (.goto (-38), 3) := by decide +kernel
theorem dX8_isBelow_45 : decode cX8_isBelow 45 = .ok (.iload_n 2, 1) := by decide +kernel
theorem dX8_isBelow_46 : decode cX8_isBelow 46 = .ok (.ireturn, 1) := by decide +kernel
theorem dX8_soldOff_0 : decode cX8_soldOff 0 = .ok (.aload_n 0, 1) := by decide +kernel
theorem dX8_soldOff_1 : decode cX8_soldOff 1 = .ok (.iload_n 1, 1) := by decide +kernel
theorem dX8_soldOff_2 : decode cX8_soldOff 2 = .ok (.iload_n 2, 1) := by decide +kernel
theorem dX8_soldOff_3 : decode cX8_soldOff 3 = .ok (.invokevirtual 200, 3) := by decide +kernel
theorem dX8_soldOff_6 : decode cX8_soldOff 6 = .ok (.ifCond .eq 21, 3) := by decide +kernel
theorem dX8_soldOff_9 : decode cX8_soldOff 9 = .ok (.aload_n 0, 1) := by decide +kernel
theorem dX8_soldOff_10 : decode cX8_soldOff 10 = .ok (.iload_n 3, 1) := by decide +kernel
theorem dX8_soldOff_11 : decode cX8_soldOff 11 = .ok (.invokevirtual 104, 3) := by decide +kernel
theorem dX8_soldOff_14 : decode cX8_soldOff 14 = .ok (.ifCond .eq 13, 3) := by decide +kernel
theorem dX8_soldOff_17 : decode cX8_soldOff 17 = .ok (.iload_n 3, 1) := by decide +kernel
theorem dX8_soldOff_18 : decode cX8_soldOff 18 = .ok (.iload_n 1, 1) := by decide +kernel
theorem dX8_soldOff_19 : decode cX8_soldOff 19 = .ok (.if_icmp .eq 8, 3) := by decide +kernel
theorem dX8_soldOff_22 : decode cX8_soldOff 22 = .ok (.iload_n 3, 1) := by decide +kernel
theorem dX8_soldOff_23 : decode cX8_soldOff 23 = .ok (.iload_n 2, 1) := by decide +kernel
theorem dX8_soldOff_24 : decode cX8_soldOff 24 = .ok (.if_icmp .ne 6, 3) := by decide +kernel
theorem dX8_soldOff_27 : decode cX8_soldOff 27 = .ok (.bipush (-101), 2) := by decide +kernel
theorem dX8_soldOff_29 : decode cX8_soldOff 29 = .ok (.ireturn, 1) := by decide +kernel
theorem dX8_soldOff_30 : decode cX8_soldOff 30 = .ok (.iload 4, 2) := by decide +kernel
theorem dX8_soldOff_32 : decode cX8_soldOff 32 = .ok (.iconst 0, 1) := by decide +kernel
theorem dX8_soldOff_33 : decode cX8_soldOff 33 = .ok (.bipush 9, 2) := by decide +kernel
theorem dX8_soldOff_35 : decode cX8_soldOff 35 = .ok (.invokestatic 94, 3) := by decide +kernel
theorem dX8_soldOff_38 : decode cX8_soldOff 38 = .ok (.ifCond .ne 6, 3) := by decide +kernel
theorem dX8_soldOff_41 : decode cX8_soldOff 41 = .ok (.bipush (-102), 2) := by decide +kernel
theorem dX8_soldOff_43 : decode cX8_soldOff 43 = .ok (.ireturn, 1) := by decide +kernel
theorem dX8_soldOff_44 : decode cX8_soldOff 44 = .ok (.aload_n 0, 1) := by decide +kernel
theorem dX8_soldOff_45 : decode cX8_soldOff 45 = .ok (.iload_n 1, 1) := by decide +kernel
theorem dX8_soldOff_46 : decode cX8_soldOff 46 = .ok (.iload_n 2, 1) := by decide +kernel
theorem dX8_soldOff_47 : decode cX8_soldOff 47 = .ok (.invokevirtual 203, 3) := by decide +kernel
theorem dX8_soldOff_50 : decode cX8_soldOff 50 = .ok (.ifCond .ne 6, 3) := by decide +kernel
theorem dX8_soldOff_53 : decode cX8_soldOff 53 = .ok (.bipush (-103), 2) := by decide +kernel
theorem dX8_soldOff_55 : decode cX8_soldOff 55 = .ok (.ireturn, 1) := by decide +kernel
theorem dX8_soldOff_56 : decode cX8_soldOff 56 = .ok (.aload_n 0, 1) := by decide +kernel
theorem dX8_soldOff_57 : decode cX8_soldOff 57 = .ok (.invokevirtual 213, 3) := by decide +kernel
theorem dX8_soldOff_60 : decode cX8_soldOff 60 = .ok (.ifCond .ne 5, 3) := by decide +kernel
theorem dX8_soldOff_63 : decode cX8_soldOff 63 = .ok (.iconst (-1), 1) := by decide +kernel
theorem dX8_soldOff_64 : decode cX8_soldOff 64 = .ok (.ireturn, 1) := by decide +kernel
theorem dX8_soldOff_65 : decode cX8_soldOff 65 = .ok (.iconst 0, 1) := by decide +kernel
theorem dX8_soldOff_66 : decode cX8_soldOff 66 = .ok (.istore 5, 2) := by decide +kernel
theorem dX8_soldOff_68 : decode cX8_soldOff 68 = .ok (.iconst 0, 1) := by decide +kernel
theorem dX8_soldOff_69 : decode cX8_soldOff 69 = .ok (.istore 6, 2) := by decide +kernel
theorem dX8_soldOff_71 : decode cX8_soldOff 71 = .ok (.iload 6, 2) := by decide +kernel
theorem dX8_soldOff_73 : decode cX8_soldOff 73 = .ok (.aload_n 0, 1) := by decide +kernel
theorem dX8_soldOff_74 : decode cX8_soldOff 74 = .ok (.getfield 98, 3) := by decide +kernel
theorem dX8_soldOff_77 : decode cX8_soldOff 77 = .ok (.if_icmp .ge 44, 3) := by decide +kernel
theorem dX8_soldOff_80 : decode cX8_soldOff 80 = .ok (.iload 5, 2) := by decide +kernel
theorem dX8_soldOff_82 : decode cX8_soldOff 82 = .ok (.aload_n 0, 1) := by decide +kernel
theorem dX8_soldOff_83 : decode cX8_soldOff 83 = .ok (.getfield 20, 3) := by decide +kernel
theorem dX8_soldOff_86 : decode cX8_soldOff 86 = .ok (.iload 6, 2) := by decide +kernel
theorem dX8_soldOff_88 : decode cX8_soldOff 88 = .ok (.iaload, 1) := by decide +kernel
theorem dX8_soldOff_89 : decode cX8_soldOff 89 = .ok (.iload_n 1, 1) := by decide +kernel
theorem dX8_soldOff_90 : decode cX8_soldOff 90 = .ok (.if_icmp .eq 14, 3) := by decide +kernel
theorem dX8_soldOff_93 : decode cX8_soldOff 93 = .ok (.aload_n 0, 1) := by decide +kernel
theorem dX8_soldOff_94 : decode cX8_soldOff 94 = .ok (.getfield 20, 3) := by decide +kernel
theorem dX8_soldOff_97 : decode cX8_soldOff 97 = .ok (.iload 6, 2) := by decide +kernel
theorem dX8_soldOff_99 : decode cX8_soldOff 99 = .ok (.iaload, 1) := by decide +kernel
theorem dX8_soldOff_100 : decode cX8_soldOff 100 = .ok (.iload_n 2, 1) := by decide +kernel
theorem dX8_soldOff_101 : decode cX8_soldOff 101 = .ok (.if_icmp .ne 10, 3) := by decide +kernel
theorem dX8_soldOff_104 : decode cX8_soldOff 104 = .ok (.iconst 1, 1) := by decide +kernel
theorem dX8_soldOff_105 : decode cX8_soldOff 105 = .ok (.iload 6, 2) := by decide +kernel
theorem dX8_soldOff_107 : decode cX8_soldOff 107 = .ok (.ishl, 1) := by decide +kernel
theorem dX8_soldOff_108 : decode cX8_soldOff 108 = .ok (.goto 4, 3) := by decide +kernel
theorem dX8_soldOff_111 : decode cX8_soldOff 111 = .ok (.iconst 0, 1) := by decide +kernel
theorem dX8_soldOff_112 : decode cX8_soldOff 112 = .ok (.ior, 1) := by decide +kernel
theorem dX8_soldOff_113 : decode cX8_soldOff 113 = .ok (.istore 5, 2) := by decide +kernel
theorem dX8_soldOff_115 : decode cX8_soldOff 115 = .ok (.iinc 6 1, 3) := by decide +kernel
theorem dX8_soldOff_118 : decode cX8_soldOff 118 = .ok (.goto (-47), 3) := by decide +kernel
theorem dX8_soldOff_121 : decode cX8_soldOff 121 = .ok (.iconst (-1), 1) := by decide +kernel
theorem dX8_soldOff_122 : decode cX8_soldOff 122 = .ok (.istore 6, 2) := by decide +kernel
theorem dX8_soldOff_124 : decode cX8_soldOff 124 = .ok (.iconst 0, 1) := by decide +kernel
theorem dX8_soldOff_125 : decode cX8_soldOff 125 = .ok (.istore 7, 2) := by decide +kernel
theorem dX8_soldOff_127 : decode cX8_soldOff 127 = .ok (.iload 7, 2) := by decide +kernel
theorem dX8_soldOff_129 : decode cX8_soldOff 129 = .ok (.iconst 1, 1) := by decide +kernel
theorem dX8_soldOff_130 : decode cX8_soldOff 130 = .ok (.aload_n 0, 1) := by decide +kernel
theorem dX8_soldOff_131 : decode cX8_soldOff 131 = .ok (.getfield 98, 3) := by decide +kernel
theorem dX8_soldOff_134 : decode cX8_soldOff 134 = .ok (.ishl, 1) := by decide +kernel
theorem dX8_soldOff_135 : decode cX8_soldOff 135 = .ok (.if_icmp .ge 97, 3) := by decide +kernel
theorem dX8_soldOff_138 : decode cX8_soldOff 138 = .ok (.iload 7, 2) := by decide +kernel
theorem dX8_soldOff_140 : decode cX8_soldOff 140 = .ok (.iload 5, 2) := by decide +kernel
theorem dX8_soldOff_142 : decode cX8_soldOff 142 = .ok (.iconst (-1), 1) := by decide +kernel
theorem dX8_soldOff_143 : decode cX8_soldOff 143 = .ok (.ixor, 1) := by decide +kernel
theorem dX8_soldOff_144 : decode cX8_soldOff 144 = .ok (.iand, 1) := by decide +kernel
theorem dX8_soldOff_145 : decode cX8_soldOff 145 = .ok (.ifCond .ne 41, 3) := by decide +kernel
theorem dX8_soldOff_148 : decode cX8_soldOff 148 = .ok (.aload_n 0, 1) := by decide +kernel
theorem dX8_soldOff_149 : decode cX8_soldOff 149 = .ok (.iload_n 3, 1) := by decide +kernel
theorem dX8_soldOff_150 : decode cX8_soldOff 150 = .ok (.invokevirtual 108, 3) := by decide +kernel
theorem dX8_soldOff_153 : decode cX8_soldOff 153 = .ok (.iload 7, 2) := by decide +kernel
theorem dX8_soldOff_155 : decode cX8_soldOff 155 = .ok (.invokestatic 188, 3) := by decide +kernel
theorem dX8_soldOff_158 : decode cX8_soldOff 158 = .ok (.iadd, 1) := by decide +kernel
theorem dX8_soldOff_159 : decode cX8_soldOff 159 = .ok (.iconst 3, 1) := by decide +kernel
theorem dX8_soldOff_160 : decode cX8_soldOff 160 = .ok (.if_icmp .gt 26, 3) := by decide +kernel
theorem dX8_soldOff_163 : decode cX8_soldOff 163 = .ok (.iload 6, 2) := by decide +kernel
theorem dX8_soldOff_165 : decode cX8_soldOff 165 = .ok (.iconst (-1), 1) := by decide +kernel
theorem dX8_soldOff_166 : decode cX8_soldOff 166 = .ok (.if_icmp .eq 16, 3) := by decide +kernel
theorem dX8_soldOff_169 : decode cX8_soldOff 169 = .ok (.iload 7, 2) := by decide +kernel
theorem dX8_soldOff_171 : decode cX8_soldOff 171 = .ok (.invokestatic 188, 3) := by decide +kernel
theorem dX8_soldOff_174 : decode cX8_soldOff 174 = .ok (.iload 6, 2) := by decide +kernel
theorem dX8_soldOff_176 : decode cX8_soldOff 176 = .ok (.invokestatic 188, 3) := by decide +kernel
theorem dX8_soldOff_179 : decode cX8_soldOff 179 = .ok (.if_icmp .ge 7, 3) := by decide +kernel
theorem dX8_soldOff_182 : decode cX8_soldOff 182 = .ok (.iconst 1, 1) := by decide +kernel
theorem dX8_soldOff_183 : decode cX8_soldOff 183 = .ok (.goto 4, 3) := by decide +kernel
theorem dX8_soldOff_186 : decode cX8_soldOff 186 = .ok (.iconst 0, 1) := by decide +kernel
theorem dX8_soldOff_187 : decode cX8_soldOff 187 = .ok (.istore 8, 2) := by decide +kernel
theorem dX8_soldOff_189 : decode cX8_soldOff 189 = .ok (.iload 8, 2) := by decide +kernel
theorem dX8_soldOff_191 : decode cX8_soldOff 191 = .ok (.ifCond .eq 31, 3) := by decide +kernel
theorem dX8_soldOff_194 : decode cX8_soldOff 194 = .ok (.aload_n 0, 1) := by decide +kernel
theorem dX8_soldOff_195 : decode cX8_soldOff 195 = .ok (.iload_n 1, 1) := by decide +kernel
theorem dX8_soldOff_196 : decode cX8_soldOff 196 = .ok (.iload_n 2, 1) := by decide +kernel
theorem dX8_soldOff_197 : decode cX8_soldOff 197 = .ok (.iconst (-1), 1) := by decide +kernel
theorem dX8_soldOff_198 : decode cX8_soldOff 198 = .ok (.iconst (-1), 1) := by decide +kernel
theorem dX8_soldOff_199 : decode cX8_soldOff 199 = .ok (.iload 7, 2) := by decide +kernel
theorem dX8_soldOff_201 : decode cX8_soldOff 201 = .ok (.iload_n 3, 1) := by decide +kernel
theorem dX8_soldOff_202 : decode cX8_soldOff 202 = .ok (.invokevirtual 217, 3) := by decide +kernel
theorem dX8_soldOff_205 : decode cX8_soldOff 205 = .ok (.ifCond .eq 17, 3) := by decide +kernel
theorem dX8_soldOff_208 : decode cX8_soldOff 208 = .ok (.aload_n 0, 1) := by decide +kernel
theorem dX8_soldOff_209 : decode cX8_soldOff 209 = .ok (.iload 4, 2) := by decide +kernel
theorem dX8_soldOff_211 : decode cX8_soldOff 211 = .ok (.invokevirtual 225, 3) := by decide +kernel
theorem dX8_soldOff_214 : decode cX8_soldOff 214 = .ok (.ifCond .eq 8, 3) := by decide +kernel
theorem dX8_soldOff_217 : decode cX8_soldOff 217 = .ok (.iload 7, 2) := by decide +kernel
theorem dX8_soldOff_219 : decode cX8_soldOff 219 = .ok (.goto 5, 3) := by decide +kernel
theorem dX8_soldOff_222 : decode cX8_soldOff 222 = .ok (.iload 6, 2) := by decide +kernel
theorem dX8_soldOff_224 : decode cX8_soldOff 224 = .ok (.istore 6, 2) := by decide +kernel
theorem dX8_soldOff_226 : decode cX8_soldOff 226 = .ok (.iinc 7 1, 3) := by decide +kernel
theorem dX8_soldOff_229 : decode cX8_soldOff 229 = .ok (.goto (-102), 3) := by decide +kernel
theorem dX8_soldOff_232 : decode cX8_soldOff 232 = .ok (.iload 6, 2) := by decide +kernel
theorem dX8_soldOff_234 : decode cX8_soldOff 234 = .ok (.ireturn, 1) := by decide +kernel
theorem dX8_twice_0 : decode cX8_twice 0 = .ok (.aload_n 0, 1) := by decide +kernel
theorem dX8_twice_1 : decode cX8_twice 1 = .ok (.iload_n 1, 1) := by decide +kernel
theorem dX8_twice_2 : decode cX8_twice 2 = .ok (.iload_n 2, 1) := by decide +kernel
theorem dX8_twice_3 : decode cX8_twice 3 = .ok (.invokevirtual 200, 3) := by decide +kernel
theorem dX8_twice_6 : decode cX8_twice 6 = .ok (.ifCond .eq 35, 3) := by decide +kernel
theorem dX8_twice_9 : decode cX8_twice 9 = .ok (.aload_n 0, 1) := by decide +kernel
theorem dX8_twice_10 : decode cX8_twice 10 = .ok (.iload_n 3, 1) := by decide +kernel
theorem dX8_twice_11 : decode cX8_twice 11 = .ok (.iload 4, 2) := by decide +kernel
theorem dX8_twice_13 : decode cX8_twice 13 = .ok (.invokevirtual 200, 3) := by decide +kernel
theorem dX8_twice_16 : decode cX8_twice 16 = .ok (.ifCond .eq 25, 3) := by decide +kernel
theorem dX8_twice_19 : decode cX8_twice 19 = .ok (.iload_n 1, 1) := by decide +kernel
theorem dX8_twice_20 : decode cX8_twice 20 = .ok (.iload_n 3, 1) := by decide +kernel
theorem dX8_twice_21 : decode cX8_twice 21 = .ok (.if_icmp .eq 20, 3) := by decide +kernel
theorem dX8_twice_24 : decode cX8_twice 24 = .ok (.iload_n 1, 1) := by decide +kernel
theorem dX8_twice_25 : decode cX8_twice 25 = .ok (.iload 4, 2) := by decide +kernel
theorem dX8_twice_27 : decode cX8_twice 27 = .ok (.if_icmp .eq 14, 3) := by decide +kernel
theorem dX8_twice_30 : decode cX8_twice 30 = .ok (.iload_n 2, 1) := by decide +kernel
theorem dX8_twice_31 : decode cX8_twice 31 = .ok (.iload_n 3, 1) := by decide +kernel
theorem dX8_twice_32 : decode cX8_twice 32 = .ok (.if_icmp .eq 9, 3) := by decide +kernel
theorem dX8_twice_35 : decode cX8_twice 35 = .ok (.iload_n 2, 1) := by decide +kernel
theorem dX8_twice_36 : decode cX8_twice 36 = .ok (.iload 4, 2) := by decide +kernel
theorem dX8_twice_38 : decode cX8_twice 38 = .ok (.if_icmp .ne 6, 3) := by decide +kernel
theorem dX8_twice_41 : decode cX8_twice 41 = .ok (.bipush (-101), 2) := by decide +kernel
theorem dX8_twice_43 : decode cX8_twice 43 = .ok (.ireturn, 1) := by decide +kernel
theorem dX8_twice_44 : decode cX8_twice 44 = .ok (.iload 5, 2) := by decide +kernel
theorem dX8_twice_46 : decode cX8_twice 46 = .ok (.iconst 0, 1) := by decide +kernel
theorem dX8_twice_47 : decode cX8_twice 47 = .ok (.iconst 2, 1) := by decide +kernel
theorem dX8_twice_48 : decode cX8_twice 48 = .ok (.invokestatic 94, 3) := by decide +kernel
theorem dX8_twice_51 : decode cX8_twice 51 = .ok (.ifCond .ne 6, 3) := by decide +kernel
theorem dX8_twice_54 : decode cX8_twice 54 = .ok (.bipush (-102), 2) := by decide +kernel
theorem dX8_twice_56 : decode cX8_twice 56 = .ok (.ireturn, 1) := by decide +kernel
theorem dX8_twice_57 : decode cX8_twice 57 = .ok (.aload_n 0, 1) := by decide +kernel
theorem dX8_twice_58 : decode cX8_twice 58 = .ok (.iload_n 1, 1) := by decide +kernel
theorem dX8_twice_59 : decode cX8_twice 59 = .ok (.iload_n 2, 1) := by decide +kernel
theorem dX8_twice_60 : decode cX8_twice 60 = .ok (.invokevirtual 203, 3) := by decide +kernel
theorem dX8_twice_63 : decode cX8_twice 63 = .ok (.ifCond .eq 13, 3) := by decide +kernel
theorem dX8_twice_66 : decode cX8_twice 66 = .ok (.aload_n 0, 1) := by decide +kernel
theorem dX8_twice_67 : decode cX8_twice 67 = .ok (.iload_n 3, 1) := by decide +kernel
theorem dX8_twice_68 : decode cX8_twice 68 = .ok (.iload 4, 2) := by decide +kernel
theorem dX8_twice_70 : decode cX8_twice 70 = .ok (.invokevirtual 203, 3) := by decide +kernel
theorem dX8_twice_73 : decode cX8_twice 73 = .ok (.ifCond .ne 6, 3) := by decide +kernel
theorem dX8_twice_76 : decode cX8_twice 76 = .ok (.bipush (-103), 2) := by decide +kernel
theorem dX8_twice_78 : decode cX8_twice 78 = .ok (.ireturn, 1) := by decide +kernel
theorem dX8_twice_79 : decode cX8_twice 79 = .ok (.aload_n 0, 1) := by decide +kernel
theorem dX8_twice_80 : decode cX8_twice 80 = .ok (.invokevirtual 213, 3) := by decide +kernel
theorem dX8_twice_83 : decode cX8_twice 83 = .ok (.ifCond .eq 53, 3) := by decide +kernel
theorem dX8_twice_86 : decode cX8_twice 86 = .ok (.iload 5, 2) := by decide +kernel
theorem dX8_twice_88 : decode cX8_twice 88 = .ok (.iconst 1, 1) := by decide +kernel
theorem dX8_twice_89 : decode cX8_twice 89 = .ok (.if_icmp .ne 20, 3) := by decide +kernel
theorem dX8_twice_92 : decode cX8_twice 92 = .ok (.aload_n 0, 1) := by decide +kernel
theorem dX8_twice_93 : decode cX8_twice 93 = .ok (.iload_n 3, 1) := by decide +kernel
theorem dX8_twice_94 : decode cX8_twice 94 = .ok (.iload 4, 2) := by decide +kernel
theorem dX8_twice_96 : decode cX8_twice 96 = .ok (.iconst (-1), 1) := by decide +kernel
theorem dX8_twice_97 : decode cX8_twice 97 = .ok (.iconst (-1), 1) := by decide +kernel
theorem dX8_twice_98 : decode cX8_twice 98 = .ok (.iconst 0, 1) := by decide +kernel
theorem dX8_twice_99 : decode cX8_twice 99 = .ok (.iconst (-1), 1) := by decide +kernel
theorem dX8_twice_100 : decode cX8_twice 100 = .ok (.invokevirtual 217, 3) := by decide +kernel
theorem dX8_twice_103 : decode cX8_twice 103 = .ok (.ifCond .eq 33, 3) := by decide +kernel
theorem dX8_twice_106 : decode cX8_twice 106 = .ok (.goto 26, 3) := by decide +kernel
theorem dX8_twice_109 : decode cX8_twice 109 = .ok (.aload_n 0, 1) := by decide +kernel
theorem dX8_twice_110 : decode cX8_twice 110 = .ok (.iload_n 1, 1) := by decide +kernel
theorem dX8_twice_111 : decode cX8_twice 111 = .ok (.iload_n 2, 1) := by decide +kernel
theorem dX8_twice_112 : decode cX8_twice 112 = .ok (.iload 5, 2) := by decide +kernel
theorem dX8_twice_114 : decode cX8_twice 114 = .ok (.ifCond .ne 7, 3) := by decide +kernel
theorem dX8_twice_117 : decode cX8_twice 117 = .ok (.iconst (-1), 1) := by decide +kernel
theorem dX8_twice_118 : decode cX8_twice 118 = .ok (.goto 4, 3) := by decide +kernel
theorem dX8_twice_121 : decode cX8_twice 121 = .ok (.iload_n 3, 1) := by decide +kernel
theorem dX8_twice_122 : decode cX8_twice 122 = .ok (.iload 4, 2) := by decide +kernel
theorem dX8_twice_124 : decode cX8_twice 124 = .ok (.iconst 0, 1) := by decide +kernel
theorem dX8_twice_125 : decode cX8_twice 125 = .ok (.iconst (-1), 1) := by decide +kernel
theorem dX8_twice_126 : decode cX8_twice 126 = .ok (.invokevirtual 217, 3) := by decide +kernel
theorem dX8_twice_129 : decode cX8_twice 129 = .ok (.ifCond .eq 7, 3) := by decide +kernel
theorem dX8_twice_132 : decode cX8_twice 132 = .ok (.iconst 1, 1) := by decide +kernel
theorem dX8_twice_133 : decode cX8_twice 133 = .ok (.goto 4, 3) := by decide +kernel
theorem dX8_twice_136 : decode cX8_twice 136 = .ok (.iconst 0, 1) := by decide +kernel
theorem dX8_twice_137 : decode cX8_twice 137 = .ok (.istore 6, 2) := by decide +kernel
theorem dX8_twice_139 : decode cX8_twice 139 = .ok (.iload 6, 2) := by decide +kernel
theorem dX8_twice_141 : decode cX8_twice 141 = .ok (.ifCond .eq 11, 3) := by decide +kernel
theorem dX8_twice_144 : decode cX8_twice 144 = .ok (.aload_n 0, 1) := by decide +kernel
theorem dX8_twice_145 : decode cX8_twice 145 = .ok (.iconst 0, 1) := by decide +kernel
theorem dX8_twice_146 : decode cX8_twice 146 = .ok (.invokevirtual 221, 3) := by decide +kernel
theorem dX8_twice_149 : decode cX8_twice 149 = .ok (.goto 4, 3) := by decide +kernel
theorem dX8_twice_152 : decode cX8_twice 152 = .ok (.iconst (-1), 1) := by decide +kernel
theorem dX8_twice_153 : decode cX8_twice 153 = .ok (.ireturn, 1) := by decide +kernel
theorem dX8_letters_0 : decode cX8_letters 0 = .ok (.iconst 0, 1) := by decide +kernel
theorem dX8_letters_1 : decode cX8_letters 1 = .ok (.istore_n 3, 1) := by decide +kernel
theorem dX8_letters_2 : decode cX8_letters 2 = .ok (.iconst 0, 1) := by decide +kernel
theorem dX8_letters_3 : decode cX8_letters 3 = .ok (.istore 4, 2) := by decide +kernel
theorem dX8_letters_5 : decode cX8_letters 5 = .ok (.iconst 0, 1) := by decide +kernel
theorem dX8_letters_6 : decode cX8_letters 6 = .ok (.istore 5, 2) := by decide +kernel
theorem dX8_letters_8 : decode cX8_letters 8 = .ok (.iload 5, 2) := by decide +kernel
theorem dX8_letters_10 : decode cX8_letters 10 = .ok (.bipush 8, 2) := by decide +kernel
theorem dX8_letters_12 : decode cX8_letters 12 = .ok (.if_icmp .ge 73, 3) := by decide +kernel
theorem dX8_letters_15 : decode cX8_letters 15 = .ok (.lload_n 1, 1) := by decide +kernel
theorem dX8_letters_16 : decode cX8_letters 16 = .ok (.bipush 8, 2) := by decide +kernel
theorem dX8_letters_18 : decode cX8_letters 18 = .ok (.iload 5, 2) := by decide +kernel
theorem dX8_letters_20 : decode cX8_letters 20 = .ok (.imul, 1) := by decide +kernel
theorem dX8_letters_21 : decode cX8_letters 21 = .ok (.lshr, 1) := by decide +kernel
theorem dX8_letters_22 : decode cX8_letters 22 = .ok (.ldc2_w 228, 3) := by decide +kernel
theorem dX8_letters_25 : decode cX8_letters 25 = .ok (.land, 1) := by decide +kernel
theorem dX8_letters_26 : decode cX8_letters 26 = .ok (.l2i, 1) := by decide +kernel
theorem dX8_letters_27 : decode cX8_letters 27 = .ok (.istore 6, 2) := by decide +kernel
theorem dX8_letters_29 : decode cX8_letters 29 = .ok (.iload 6, 2) := by decide +kernel
theorem dX8_letters_31 : decode cX8_letters 31 = .ok (.bipush 126, 2) := by decide +kernel
theorem dX8_letters_33 : decode cX8_letters 33 = .ok (.if_icmp .gt 13, 3) := by decide +kernel
theorem dX8_letters_36 : decode cX8_letters 36 = .ok (.iload 4, 2) := by decide +kernel
theorem dX8_letters_38 : decode cX8_letters 38 = .ok (.ifCond .eq 11, 3) := by decide +kernel
theorem dX8_letters_41 : decode cX8_letters 41 = .ok (.iload 6, 2) := by decide +kernel
theorem dX8_letters_43 : decode cX8_letters 43 = .ok (.ifCond .eq 6, 3) := by decide +kernel
theorem dX8_letters_46 : decode cX8_letters 46 = .ok (.bipush (-102), 2) := by decide +kernel
theorem dX8_letters_48 : decode cX8_letters 48 = .ok (.ireturn, 1) := by decide +kernel
theorem dX8_letters_49 : decode cX8_letters 49 = .ok (.iload 4, 2) := by decide +kernel
theorem dX8_letters_51 : decode cX8_letters 51 = .ok (.ifCond .ne 8, 3) := by decide +kernel
theorem dX8_letters_54 : decode cX8_letters 54 = .ok (.iload 6, 2) := by decide +kernel
theorem dX8_letters_56 : decode cX8_letters 56 = .ok (.ifCond .ne 7, 3) := by decide +kernel
theorem dX8_letters_59 : decode cX8_letters 59 = .ok (.iconst 1, 1) := by decide +kernel
theorem dX8_letters_60 : decode cX8_letters 60 = .ok (.goto 4, 3) := by decide +kernel
theorem dX8_letters_63 : decode cX8_letters 63 = .ok (.iconst 0, 1) := by decide +kernel
theorem dX8_letters_64 : decode cX8_letters 64 = .ok (.istore 4, 2) := by decide +kernel
theorem dX8_letters_66 : decode cX8_letters 66 = .ok (.iload_n 3, 1) := by decide +kernel
theorem dX8_letters_67 : decode cX8_letters 67 = .ok (.iload 6, 2) := by decide +kernel
theorem dX8_letters_69 : decode cX8_letters 69 = .ok (.ifCond .ne 7, 3) := by decide +kernel
theorem dX8_letters_72 : decode cX8_letters 72 = .ok (.iconst 0, 1) := by decide +kernel
theorem dX8_letters_73 : decode cX8_letters 73 = .ok (.goto 4, 3) := by decide +kernel
theorem dX8_letters_76 : decode cX8_letters 76 = .ok (.iconst 1, 1) := by decide +kernel
theorem dX8_letters_77 : decode cX8_letters 77 = .ok (.iadd, 1) := by decide +kernel
theorem dX8_letters_78 : decode cX8_letters 78 = .ok (.istore_n 3, 1) := by decide +kernel
theorem dX8_letters_79 : decode cX8_letters 79 = .ok (.iinc 5 1, 3) := by decide +kernel
theorem dX8_letters_82 : decode cX8_letters 82 = .ok (.goto (-74), 3) := by decide +kernel
theorem dX8_letters_85 : decode cX8_letters 85 = .ok (.aload_n 0, 1) := by decide +kernel
theorem dX8_letters_86 : decode cX8_letters 86 = .ok (.getfield 230, 3) := by decide +kernel
theorem dX8_letters_89 : decode cX8_letters 89 = .ok (.iload_n 3, 1) := by decide +kernel
theorem dX8_letters_90 : decode cX8_letters 90 = .ok (.iadd, 1) := by decide +kernel
theorem dX8_letters_91 : decode cX8_letters 91 = .ok (.bipush 50, 2) := by decide +kernel
theorem dX8_letters_93 : decode cX8_letters 93 = .ok (.if_icmp .le 6, 3) := by decide +kernel
theorem dX8_letters_96 : decode cX8_letters 96 = .ok (.bipush (-104), 2) := by decide +kernel
theorem dX8_letters_98 : decode cX8_letters 98 = .ok (.ireturn, 1) := by decide +kernel
theorem dX8_letters_99 : decode cX8_letters 99 = .ok (.iconst 0, 1) := by decide +kernel
theorem dX8_letters_100 : decode cX8_letters 100 = .ok (.istore 5, 2) := by decide +kernel
theorem dX8_letters_102 : decode cX8_letters 102 = .ok (.iload 5, 2) := by decide +kernel
theorem dX8_letters_104 : decode cX8_letters 104 = .ok (.iload_n 3, 1) := by decide +kernel
theorem dX8_letters_105 : decode cX8_letters 105 = .ok (.if_icmp .ge 30, 3) := by decide +kernel
theorem dX8_letters_108 : decode cX8_letters 108 = .ok (.aload_n 0, 1) := by decide +kernel
theorem dX8_letters_109 : decode cX8_letters 109 = .ok (.getfield 42, 3) := by decide +kernel
theorem dX8_letters_112 : decode cX8_letters 112 = .ok (.aload_n 0, 1) := by decide +kernel
theorem dX8_letters_113 : decode cX8_letters 113 = .ok (.getfield 230, 3) := by decide +kernel
theorem dX8_letters_116 : decode cX8_letters 116 = .ok (.iload 5, 2) := by decide +kernel
theorem dX8_letters_118 : decode cX8_letters 118 = .ok (.iadd, 1) := by decide +kernel
theorem dX8_letters_119 : decode cX8_letters 119 = .ok (.lload_n 1, 1) := by decide +kernel
theorem dX8_letters_120 : decode cX8_letters 120 = .ok (.bipush 8, 2) := by decide +kernel
theorem dX8_letters_122 : decode cX8_letters 122 = .ok (.iload 5, 2) := by decide +kernel
theorem dX8_letters_124 : decode cX8_letters 124 = .ok (.imul, 1) := by decide +kernel
theorem dX8_letters_125 : decode cX8_letters 125 = .ok (.lshr, 1) := by decide +kernel
theorem dX8_letters_126 : decode cX8_letters 126 = .ok (.l2i, 1) := by decide +kernel
theorem dX8_letters_127 : decode cX8_letters 127 = .ok (.i2b, 1) := by decide +kernel
theorem dX8_letters_128 : decode cX8_letters 128 = .ok (.bastore, 1) := by decide +kernel
theorem dX8_letters_129 : decode cX8_letters 129 = .ok (.iinc 5 1, 3) := by decide +kernel
theorem dX8_letters_132 : decode cX8_letters 132 = .ok (.goto (-30), 3) := by decide +kernel
theorem dX8_letters_135 : decode cX8_letters 135 = .ok (.aload_n 0, 1) := by decide +kernel
theorem dX8_letters_136 : decode cX8_letters 136 = .ok (.dup, 1) := by decide +kernel
theorem dX8_letters_137 : decode cX8_letters 137 = .ok (.getfield 230, 3) := by decide +kernel
theorem dX8_letters_140 : decode cX8_letters 140 = .ok (.iload_n 3, 1) := by decide +kernel
theorem dX8_letters_141 : decode cX8_letters 141 = .ok (.iadd, 1) := by decide +kernel
theorem dX8_letters_142 : decode cX8_letters 142 = .ok (.putfield 230, 3) := by decide +kernel
theorem dX8_letters_145 : decode cX8_letters 145 = .ok (.aload_n 0, 1) := by decide +kernel
theorem dX8_letters_146 : decode cX8_letters 146 = .ok (.getfield 230, 3) := by decide +kernel
theorem dX8_letters_149 : decode cX8_letters 149 = .ok (.ireturn, 1) := by decide +kernel
theorem dX8_blank_0 : decode cX8_blank 0 = .ok (.aload_n 0, 1) := by decide +kernel
theorem dX8_blank_1 : decode cX8_blank 1 = .ok (.getfield 230, 3) := by decide +kernel
theorem dX8_blank_4 : decode cX8_blank 4 = .ok (.istore_n 1, 1) := by decide +kernel
theorem dX8_blank_5 : decode cX8_blank 5 = .ok (.aload_n 0, 1) := by decide +kernel
theorem dX8_blank_6 : decode cX8_blank 6 = .ok (.iconst 0, 1) := by decide +kernel
theorem dX8_blank_7 : decode cX8_blank 7 = .ok (.putfield 230, 3) := by decide +kernel
theorem dX8_blank_10 : decode cX8_blank 10 = .ok (.iload_n 1, 1) := by decide +kernel
theorem dX8_blank_11 : decode cX8_blank 11 = .ok (.ireturn, 1) := by decide +kernel
theorem dX8_isDigit_0 : decode cX8_isDigit 0 = .ok (.iload_n 0, 1) := by decide +kernel
theorem dX8_isDigit_1 : decode cX8_isDigit 1 = .ok (.bipush 48, 2) := by decide +kernel
theorem dX8_isDigit_3 : decode cX8_isDigit 3 = .ok (.bipush 57, 2) := by decide +kernel
theorem dX8_isDigit_5 : decode cX8_isDigit 5 = .ok (.invokestatic 94, 3) := by decide +kernel
theorem dX8_isDigit_8 : decode cX8_isDigit 8 = .ok (.ireturn, 1) := by decide +kernel
theorem dX8_isName_0 : decode cX8_isName 0 = .ok (.iload_n 0, 1) := by decide +kernel
theorem dX8_isName_1 : decode cX8_isName 1 = .ok (.bipush 115, 2) := by decide +kernel
theorem dX8_isName_3 : decode cX8_isName 3 = .ok (.if_icmp .eq 21, 3) := by decide +kernel
theorem dX8_isName_6 : decode cX8_isName 6 = .ok (.iload_n 0, 1) := by decide +kernel
theorem dX8_isName_7 : decode cX8_isName 7 = .ok (.bipush 111, 2) := by decide +kernel
theorem dX8_isName_9 : decode cX8_isName 9 = .ok (.if_icmp .eq 15, 3) := by decide +kernel
theorem dX8_isName_12 : decode cX8_isName 12 = .ok (.iload_n 0, 1) := by decide +kernel
theorem dX8_isName_13 : decode cX8_isName 13 = .ok (.bipush 114, 2) := by decide +kernel
theorem dX8_isName_15 : decode cX8_isName 15 = .ok (.if_icmp .eq 9, 3) := by decide +kernel
theorem dX8_isName_18 : decode cX8_isName 18 = .ok (.iload_n 0, 1) := by decide +kernel
theorem dX8_isName_19 : decode cX8_isName 19 = .ok (.bipush 100, 2) := by decide +kernel
theorem dX8_isName_21 : decode cX8_isName 21 = .ok (.if_icmp .ne 7, 3) := by decide +kernel
theorem dX8_isName_24 : decode cX8_isName 24 = .ok (.iconst 1, 1) := by decide +kernel
theorem dX8_isName_25 : decode cX8_isName 25 = .ok (.goto 4, 3) := by decide +kernel
theorem dX8_isName_28 : decode cX8_isName 28 = .ok (.iconst 0, 1) := by decide +kernel
theorem dX8_isName_29 : decode cX8_isName 29 = .ok (.ireturn, 1) := by decide +kernel
theorem dX8_readPage_0 : decode cX8_readPage 0 = .ok (.iconst 0, 1) := by decide +kernel
theorem dX8_readPage_1 : decode cX8_readPage 1 = .ok (.istore_n 1, 1) := by decide +kernel
theorem dX8_readPage_2 : decode cX8_readPage 2 = .ok (.iconst 0, 1) := by decide +kernel
theorem dX8_readPage_3 : decode cX8_readPage 3 = .ok (.istore_n 2, 1) := by decide +kernel
theorem dX8_readPage_4 : decode cX8_readPage 4 = .ok (.iconst 0, 1) := by decide +kernel
theorem dX8_readPage_5 : decode cX8_readPage 5 = .ok (.istore_n 3, 1) := by decide +kernel
theorem dX8_readPage_6 : decode cX8_readPage 6 = .ok (.iconst 1, 1) := by decide +kernel
theorem dX8_readPage_7 : decode cX8_readPage 7 = .ok (.istore 4, 2) := by decide +kernel
theorem dX8_readPage_9 : decode cX8_readPage 9 = .ok (.iload_n 3, 1) := by decide +kernel
theorem dX8_readPage_10 : decode cX8_readPage 10 = .ok (.aload_n 0, 1) := by decide +kernel
theorem dX8_readPage_11 : decode cX8_readPage 11 = .ok (.getfield 230, 3) := by decide +kernel
theorem dX8_readPage_14 : decode cX8_readPage 14 = .ok (.if_icmp .ge 202, 3) := by decide +kernel
theorem dX8_readPage_17 : decode cX8_readPage 17 = .ok (.iload 4, 2) := by decide +kernel
theorem dX8_readPage_19 : decode cX8_readPage 19 = .ok (.ifCond .eq 197, 3) := by decide +kernel
theorem dX8_readPage_22 : decode cX8_readPage 22 = .ok (.aload_n 0, 1) := by decide +kernel
theorem dX8_readPage_23 : decode cX8_readPage 23 = .ok (.getfield 42, 3) := by decide +kernel
theorem dX8_readPage_26 : decode cX8_readPage 26 = .ok (.iload_n 3, 1) := by decide +kernel
theorem dX8_readPage_27 : decode cX8_readPage 27 = .ok (.baload, 1) := by decide +kernel
theorem dX8_readPage_28 : decode cX8_readPage 28 = .ok (.istore 5, 2) := by decide +kernel
theorem dX8_readPage_30 : decode cX8_readPage 30 = .ok (.iload_n 1, 1) := by decide +kernel
theorem dX8_readPage_31 : decode cX8_readPage 31 = .ok (.iconst 2, 1) := by decide +kernel
theorem dX8_readPage_32 : decode cX8_readPage 32 = .ok (.if_icmp .le 7, 3) := by decide +kernel
theorem dX8_readPage_35 : decode cX8_readPage 35 = .ok (.iconst 1, 1) := by decide +kernel
theorem dX8_readPage_36 : decode cX8_readPage 36 = .ok (.goto 4, 3) := by decide +kernel
theorem dX8_readPage_39 : decode cX8_readPage 39 = .ok (.iconst 0, 1) := by decide +kernel
theorem dX8_readPage_40 : decode cX8_readPage 40 = .ok (.istore 6, 2) := by decide +kernel
theorem dX8_readPage_42 : decode cX8_readPage 42 = .ok (.iload_n 1, 1) := by decide +kernel
theorem dX8_readPage_43 : decode cX8_readPage 43 = .ok (.ifCond .ne 15, 3) := by decide +kernel
theorem dX8_readPage_46 : decode cX8_readPage 46 = .ok (.iload 5, 2) := by decide +kernel
theorem dX8_readPage_48 : decode cX8_readPage 48 = .ok (.bipush 33, 2) := by decide +kernel
theorem dX8_readPage_50 : decode cX8_readPage 50 = .ok (.if_icmp .ne 8, 3) := by decide +kernel
theorem dX8_readPage_53 : decode cX8_readPage 53 = .ok (.iconst 0, 1) := by decide +kernel
theorem dX8_readPage_54 : decode cX8_readPage 54 = .ok (.istore_n 1, 1) := by decide +kernel
theorem dX8_readPage_55 : decode cX8_readPage 55 = .ok (.goto 145, 3) := by decide +kernel
theorem dX8_readPage_58 : decode cX8_readPage 58 = .ok (.iload_n 1, 1) := by decide +kernel
theorem dX8_readPage_59 : decode cX8_readPage 59 = .ok (.ifCond .ne 16, 3) := by decide +kernel
theorem dX8_readPage_62 : decode cX8_readPage 62 = .ok (.iload 5, 2) := by decide +kernel
theorem dX8_readPage_64 : decode cX8_readPage 64 = .ok (.bipush 40, 2) := by decide +kernel
theorem dX8_readPage_66 : decode cX8_readPage 66 = .ok (.if_icmp .ne 9, 3) := by decide +kernel
theorem dX8_readPage_69 : decode cX8_readPage 69 = .ok (.iinc 2 1, 3) := by decide +kernel
theorem dX8_readPage_72 : decode cX8_readPage 72 = .ok (.goto 128, 3) := by decide +kernel
theorem dX8_readPage_75 : decode cX8_readPage 75 = .ok (.iload_n 1, 1) := by decide +kernel
theorem dX8_readPage_76 : decode cX8_readPage 76 = .ok (.ifCond .ne 16, 3) := by decide +kernel
theorem dX8_readPage_79 : decode cX8_readPage 79 = .ok (.iload 5, 2) := by decide +kernel
theorem dX8_readPage_81 : decode cX8_readPage 81 = .ok (.invokestatic 233, 3) := by decide +kernel
theorem dX8_readPage_84 : decode cX8_readPage 84 = .ok (.ifCond .eq 8, 3) := by decide +kernel
theorem dX8_readPage_87 : decode cX8_readPage 87 = .ok (.iconst 1, 1) := by decide +kernel
theorem dX8_readPage_88 : decode cX8_readPage 88 = .ok (.istore_n 1, 1) := by decide +kernel
theorem dX8_readPage_89 : decode cX8_readPage 89 = .ok (.goto 111, 3) := by decide +kernel
theorem dX8_readPage_92 : decode cX8_readPage 92 = .ok (.iload_n 1, 1) := by decide +kernel
theorem dX8_readPage_93 : decode cX8_readPage 93 = .ok (.iconst 1, 1) := by decide +kernel
theorem dX8_readPage_94 : decode cX8_readPage 94 = .ok (.if_icmp .ne 29, 3) := by decide +kernel
theorem dX8_readPage_97 : decode cX8_readPage 97 = .ok (.iload 5, 2) := by decide +kernel
theorem dX8_readPage_99 : decode cX8_readPage 99 = .ok (.bipush 60, 2) := by decide +kernel
theorem dX8_readPage_101 : decode cX8_readPage 101 = .ok (.if_icmp .eq 17, 3) := by decide +kernel
theorem dX8_readPage_104 : decode cX8_readPage 104 = .ok (.iload 5, 2) := by decide +kernel
theorem dX8_readPage_106 : decode cX8_readPage 106 = .ok (.bipush 61, 2) := by decide +kernel
theorem dX8_readPage_108 : decode cX8_readPage 108 = .ok (.if_icmp .eq 10, 3) := by decide +kernel
theorem dX8_readPage_111 : decode cX8_readPage 111 = .ok (.iload 5, 2) := by decide +kernel
theorem dX8_readPage_113 : decode cX8_readPage 113 = .ok (.bipush 62, 2) := by decide +kernel
theorem dX8_readPage_115 : decode cX8_readPage 115 = .ok (.if_icmp .ne 8, 3) := by decide +kernel
theorem dX8_readPage_118 : decode cX8_readPage 118 = .ok (.iconst 2, 1) := by decide +kernel
theorem dX8_readPage_119 : decode cX8_readPage 119 = .ok (.istore_n 1, 1) := by decide +kernel
theorem dX8_readPage_120 : decode cX8_readPage 120 = .ok (.goto 80, 3) := by decide +kernel
theorem dX8_readPage_123 : decode cX8_readPage 123 = .ok (.iload_n 1, 1) := by decide +kernel
theorem dX8_readPage_124 : decode cX8_readPage 124 = .ok (.iconst 1, 1) := by decide +kernel
theorem dX8_readPage_125 : decode cX8_readPage 125 = .ok (.if_icmp .le 23, 3) := by decide +kernel
theorem dX8_readPage_128 : decode cX8_readPage 128 = .ok (.iload_n 1, 1) := by decide +kernel
theorem dX8_readPage_129 : decode cX8_readPage 129 = .ok (.bipush 6, 2) := by decide +kernel
theorem dX8_readPage_131 : decode cX8_readPage 131 = .ok (.if_icmp .ge 17, 3) := by decide +kernel
theorem dX8_readPage_134 : decode cX8_readPage 134 = .ok (.iload 5, 2) := by decide +kernel
theorem dX8_readPage_136 : decode cX8_readPage 136 = .ok (.invokestatic 236, 3) := by decide +kernel
theorem dX8_readPage_139 : decode cX8_readPage 139 = .ok (.ifCond .eq 9, 3) := by decide +kernel
theorem dX8_readPage_142 : decode cX8_readPage 142 = .ok (.iinc 1 1, 3) := by decide +kernel
theorem dX8_readPage_145 : decode cX8_readPage 145 = .ok (.goto 55, 3) := by decide +kernel
theorem dX8_readPage_148 : decode cX8_readPage 148 = .ok (.iload 6, 2) := by decide +kernel
theorem dX8_readPage_150 : decode cX8_readPage 150 = .ok (.ifCond .eq 22, 3) := by decide +kernel
theorem dX8_readPage_153 : decode cX8_readPage 153 = .ok (.iload 5, 2) := by decide +kernel
theorem dX8_readPage_155 : decode cX8_readPage 155 = .ok (.bipush 38, 2) := by decide +kernel
theorem dX8_readPage_157 : decode cX8_readPage 157 = .ok (.if_icmp .eq 10, 3) := by decide +kernel
theorem dX8_readPage_160 : decode cX8_readPage 160 = .ok (.iload 5, 2) := by decide +kernel
theorem dX8_readPage_162 : decode cX8_readPage 162 = .ok (.bipush 124, 2) := by decide +kernel
theorem dX8_readPage_164 : decode cX8_readPage 164 = .ok (.if_icmp .ne 8, 3) := by decide +kernel
theorem dX8_readPage_167 : decode cX8_readPage 167 = .ok (.iconst 0, 1) := by decide +kernel
theorem dX8_readPage_168 : decode cX8_readPage 168 = .ok (.istore_n 1, 1) := by decide +kernel
theorem dX8_readPage_169 : decode cX8_readPage 169 = .ok (.goto 31, 3) := by decide +kernel
theorem dX8_readPage_172 : decode cX8_readPage 172 = .ok (.iload 6, 2) := by decide +kernel
theorem dX8_readPage_174 : decode cX8_readPage 174 = .ok (.ifCond .eq 23, 3) := by decide +kernel
theorem dX8_readPage_177 : decode cX8_readPage 177 = .ok (.iload 5, 2) := by decide +kernel
theorem dX8_readPage_179 : decode cX8_readPage 179 = .ok (.bipush 41, 2) := by decide +kernel
theorem dX8_readPage_181 : decode cX8_readPage 181 = .ok (.if_icmp .ne 16, 3) := by decide +kernel
theorem dX8_readPage_184 : decode cX8_readPage 184 = .ok (.iload_n 2, 1) := by decide +kernel
theorem dX8_readPage_185 : decode cX8_readPage 185 = .ok (.ifCond .le 12, 3) := by decide +kernel
theorem dX8_readPage_188 : decode cX8_readPage 188 = .ok (.iinc 2 (-1), 3) := by decide +kernel
theorem dX8_readPage_191 : decode cX8_readPage 191 = .ok (.bipush 7, 2) := by decide +kernel
theorem dX8_readPage_193 : decode cX8_readPage 193 = .ok (.istore_n 1, 1) := by decide +kernel
theorem dX8_readPage_194 : decode cX8_readPage 194 = .ok (.goto 6, 3) := by decide +kernel
theorem dX8_readPage_197 : decode cX8_readPage 197 = .ok (.iconst 0, 1) := by decide +kernel
theorem dX8_readPage_198 : decode cX8_readPage 198 = .ok (.istore 4, 2) := by decide +kernel
theorem dX8_readPage_200 : decode cX8_readPage 200 = .ok (.iload_n 3, 1) := by decide +kernel
theorem dX8_readPage_201 : decode cX8_readPage 201 = .ok (.iload 4, 2) := by decide +kernel
theorem dX8_readPage_203 : decode cX8_readPage 203 = .ok (.ifCond .eq 7, 3) := by decide +kernel
theorem dX8_readPage_206 : decode cX8_readPage 206 = .ok (.iconst 1, 1) := by decide +kernel
theorem dX8_readPage_207 : decode cX8_readPage 207 = .ok (.goto 4, 3) := by decide +kernel
theorem dX8_readPage_210 : decode cX8_readPage 210 = .ok (.iconst 0, 1) := by decide +kernel
theorem dX8_readPage_211 : decode cX8_readPage 211 = .ok (.iadd, 1) := by decide +kernel
theorem dX8_readPage_212 : decode cX8_readPage 212 = .ok (.istore_n 3, 1) := by decide +kernel
theorem dX8_readPage_213 : decode cX8_readPage 213 = .ok (.goto (-204), 3) := by decide +kernel
theorem dX8_readPage_216 : decode cX8_readPage 216 = .ok (.aload_n 0, 1) := by decide +kernel
theorem dX8_readPage_217 : decode cX8_readPage 217 = .ok (.iload_n 3, 1) := by decide +kernel
theorem dX8_readPage_218 : decode cX8_readPage 218 = .ok (.putfield 239, 3) := by decide +kernel
theorem dX8_readPage_221 : decode cX8_readPage 221 = .ok (.aload_n 0, 1) := by decide +kernel
theorem dX8_readPage_222 : decode cX8_readPage 222 = .ok (.iload_n 3, 1) := by decide +kernel
theorem dX8_readPage_223 : decode cX8_readPage 223 = .ok (.aload_n 0, 1) := by decide +kernel
theorem dX8_readPage_224 : decode cX8_readPage 224 = .ok (.getfield 230, 3) := by decide +kernel
theorem dX8_readPage_227 : decode cX8_readPage 227 = .ok (.if_icmp .ne 16, 3) := by decide +kernel
theorem dX8_readPage_230 : decode cX8_readPage 230 = .ok (.iload_n 1, 1) := by decide +kernel
theorem dX8_readPage_231 : decode cX8_readPage 231 = .ok (.iconst 2, 1) := by decide +kernel
theorem dX8_readPage_232 : decode cX8_readPage 232 = .ok (.if_icmp .le 11, 3) := by decide +kernel
theorem dX8_readPage_235 : decode cX8_readPage 235 = .ok (.iload_n 2, 1) := by decide +kernel
theorem dX8_readPage_236 : decode cX8_readPage 236 = .ok (.ifCond .ne 7, 3) := by decide +kernel
theorem dX8_readPage_239 : decode cX8_readPage 239 = .ok (.iconst 1, 1) := by decide +kernel
theorem dX8_readPage_240 : decode cX8_readPage 240 = .ok (.goto 4, 3) := by decide +kernel
theorem dX8_readPage_243 : decode cX8_readPage 243 = .ok (.iconst 0, 1) := by decide +kernel
theorem dX8_readPage_244 : decode cX8_readPage 244 = .ok (.putfield 242, 3) := by decide +kernel
theorem dX8_readPage_247 : decode cX8_readPage 247 = .ok (.return_, 1) := by decide +kernel
theorem dX8_fault_0 : decode cX8_fault 0 = .ok (.aload_n 0, 1) := by decide +kernel
theorem dX8_fault_1 : decode cX8_fault 1 = .ok (.invokevirtual 245, 3) := by decide +kernel
theorem dX8_fault_4 : decode cX8_fault 4 = .ok (.aload_n 0, 1) := by decide +kernel
theorem dX8_fault_5 : decode cX8_fault 5 = .ok (.getfield 239, 3) := by decide +kernel
theorem dX8_fault_8 : decode cX8_fault 8 = .ok (.ireturn, 1) := by decide +kernel
theorem dX8_test_0 : decode cX8_test 0 = .ok (.aload_n 0, 1) := by decide +kernel
theorem dX8_test_1 : decode cX8_test 1 = .ok (.invokevirtual 245, 3) := by decide +kernel
theorem dX8_test_4 : decode cX8_test 4 = .ok (.aload_n 0, 1) := by decide +kernel
theorem dX8_test_5 : decode cX8_test 5 = .ok (.getfield 242, 3) := by decide +kernel
theorem dX8_test_8 : decode cX8_test 8 = .ok (.ifCond .ne 6, 3) := by decide +kernel
theorem dX8_test_11 : decode cX8_test 11 = .ok (.bipush (-103), 2) := by decide +kernel
theorem dX8_test_13 : decode cX8_test 13 = .ok (.ireturn, 1) := by decide +kernel
theorem dX8_test_14 : decode cX8_test 14 = .ok (.aload_n 0, 1) := by decide +kernel
theorem dX8_test_15 : decode cX8_test 15 = .ok (.getfield 248, 3) := by decide +kernel
theorem dX8_test_18 : decode cX8_test 18 = .ok (.iconst 4, 1) := by decide +kernel
theorem dX8_test_19 : decode cX8_test 19 = .ok (.if_icmp .ne 6, 3) := by decide +kernel
theorem dX8_test_22 : decode cX8_test 22 = .ok (.bipush (-104), 2) := by decide +kernel
theorem dX8_test_24 : decode cX8_test 24 = .ok (.ireturn, 1) := by decide +kernel
theorem dX8_test_25 : decode cX8_test 25 = .ok (.iconst 0, 1) := by decide +kernel
theorem dX8_test_26 : decode cX8_test 26 = .ok (.istore_n 1, 1) := by decide +kernel
theorem dX8_test_27 : decode cX8_test 27 = .ok (.iload_n 1, 1) := by decide +kernel
theorem dX8_test_28 : decode cX8_test 28 = .ok (.aload_n 0, 1) := by decide +kernel
theorem dX8_test_29 : decode cX8_test 29 = .ok (.getfield 230, 3) := by decide +kernel
theorem dX8_test_32 : decode cX8_test 32 = .ok (.if_icmp .ge 29, 3) := by decide +kernel
theorem dX8_test_35 : decode cX8_test 35 = .ok (.aload_n 0, 1) := by decide +kernel
theorem dX8_test_36 : decode cX8_test 36 = .ok (.getfield 35, 3) := by decide +kernel
theorem dX8_test_39 : decode cX8_test 39 = .ok (.bipush 50, 2) := by decide +kernel
theorem dX8_test_41 : decode cX8_test 41 = .ok (.aload_n 0, 1) := by decide +kernel
theorem dX8_test_42 : decode cX8_test 42 = .ok (.getfield 248, 3) := by decide +kernel
theorem dX8_test_45 : decode cX8_test 45 = .ok (.imul, 1) := by decide +kernel
theorem dX8_test_46 : decode cX8_test 46 = .ok (.iload_n 1, 1) := by decide +kernel
theorem dX8_test_47 : decode cX8_test 47 = .ok (.iadd, 1) := by decide +kernel
theorem dX8_test_48 : decode cX8_test 48 = .ok (.aload_n 0, 1) := by decide +kernel
theorem dX8_test_49 : decode cX8_test 49 = .ok (.getfield 42, 3) := by decide +kernel
theorem dX8_test_52 : decode cX8_test 52 = .ok (.iload_n 1, 1) := by decide +kernel
theorem dX8_test_53 : decode cX8_test 53 = .ok (.baload, 1) := by decide +kernel
theorem dX8_test_54 : decode cX8_test 54 = .ok (.bastore, 1) := by decide +kernel
theorem dX8_test_55 : decode cX8_test 55 = .ok (.iinc 1 1, 3) := by decide +kernel
theorem dX8_test_58 : decode cX8_test 58 = .ok (.goto (-31), 3) := by decide +kernel
theorem dX8_test_61 : decode cX8_test 61 = .ok (.aload_n 0, 1) := by decide +kernel
theorem dX8_test_62 : decode cX8_test 62 = .ok (.getfield 39, 3) := by decide +kernel
theorem dX8_test_65 : decode cX8_test 65 = .ok (.aload_n 0, 1) := by decide +kernel
theorem dX8_test_66 : decode cX8_test 66 = .ok (.getfield 248, 3) := by decide +kernel
theorem dX8_test_69 : decode cX8_test 69 = .ok (.aload_n 0, 1) := by decide +kernel
theorem dX8_test_70 : decode cX8_test 70 = .ok (.getfield 230, 3) := by decide +kernel
theorem dX8_test_73 : decode cX8_test 73 = .ok (.iastore, 1) := by decide +kernel
theorem dX8_test_74 : decode cX8_test 74 = .ok (.aload_n 0, 1) := by decide +kernel
theorem dX8_test_75 : decode cX8_test 75 = .ok (.dup, 1) := by decide +kernel
theorem dX8_test_76 : decode cX8_test 76 = .ok (.getfield 248, 3) := by decide +kernel
theorem dX8_test_79 : decode cX8_test 79 = .ok (.iconst 1, 1) := by decide +kernel
theorem dX8_test_80 : decode cX8_test 80 = .ok (.iadd, 1) := by decide +kernel
theorem dX8_test_81 : decode cX8_test 81 = .ok (.putfield 248, 3) := by decide +kernel
theorem dX8_test_84 : decode cX8_test 84 = .ok (.aload_n 0, 1) := by decide +kernel
theorem dX8_test_85 : decode cX8_test 85 = .ok (.iconst 0, 1) := by decide +kernel
theorem dX8_test_86 : decode cX8_test 86 = .ok (.putfield 230, 3) := by decide +kernel
theorem dX8_test_89 : decode cX8_test 89 = .ok (.aload_n 0, 1) := by decide +kernel
theorem dX8_test_90 : decode cX8_test 90 = .ok (.getfield 248, 3) := by decide +kernel
theorem dX8_test_93 : decode cX8_test 93 = .ok (.iconst 1, 1) := by decide +kernel
theorem dX8_test_94 : decode cX8_test 94 = .ok (.isub, 1) := by decide +kernel
theorem dX8_test_95 : decode cX8_test 95 = .ok (.ireturn, 1) := by decide +kernel
theorem dX8_isTest_0 : decode cX8_isTest 0 = .ok (.iload_n 1, 1) := by decide +kernel
theorem dX8_isTest_1 : decode cX8_isTest 1 = .ok (.iconst 0, 1) := by decide +kernel
theorem dX8_isTest_2 : decode cX8_isTest 2 = .ok (.aload_n 0, 1) := by decide +kernel
theorem dX8_isTest_3 : decode cX8_isTest 3 = .ok (.getfield 248, 3) := by decide +kernel
theorem dX8_isTest_6 : decode cX8_isTest 6 = .ok (.iconst 1, 1) := by decide +kernel
theorem dX8_isTest_7 : decode cX8_isTest 7 = .ok (.isub, 1) := by decide +kernel
theorem dX8_isTest_8 : decode cX8_isTest 8 = .ok (.invokestatic 94, 3) := by decide +kernel
theorem dX8_isTest_11 : decode cX8_isTest 11 = .ok (.ireturn, 1) := by decide +kernel
theorem dX8_soldBy_0 : decode cX8_soldBy 0 = .ok (.iconst 0, 1) := by decide +kernel
theorem dX8_soldBy_1 : decode cX8_soldBy 1 = .ok (.istore_n 2, 1) := by decide +kernel
theorem dX8_soldBy_2 : decode cX8_soldBy 2 = .ok (.iconst 0, 1) := by decide +kernel
theorem dX8_soldBy_3 : decode cX8_soldBy 3 = .ok (.istore_n 3, 1) := by decide +kernel
theorem dX8_soldBy_4 : decode cX8_soldBy 4 = .ok (.iload_n 3, 1) := by decide +kernel
theorem dX8_soldBy_5 : decode cX8_soldBy 5 = .ok (.aload_n 0, 1) := by decide +kernel
theorem dX8_soldBy_6 : decode cX8_soldBy 6 = .ok (.getfield 98, 3) := by decide +kernel
theorem dX8_soldBy_9 : decode cX8_soldBy 9 = .ok (.if_icmp .ge 32, 3) := by decide +kernel
theorem dX8_soldBy_12 : decode cX8_soldBy 12 = .ok (.iload_n 2, 1) := by decide +kernel
theorem dX8_soldBy_13 : decode cX8_soldBy 13 = .ok (.aload_n 0, 1) := by decide +kernel
theorem dX8_soldBy_14 : decode cX8_soldBy 14 = .ok (.getfield 20, 3) := by decide +kernel
theorem dX8_soldBy_17 : decode cX8_soldBy 17 = .ok (.iload_n 3, 1) := by decide +kernel
theorem dX8_soldBy_18 : decode cX8_soldBy 18 = .ok (.iaload, 1) := by decide +kernel
theorem dX8_soldBy_19 : decode cX8_soldBy 19 = .ok (.iload_n 1, 1) := by decide +kernel
theorem dX8_soldBy_20 : decode cX8_soldBy 20 = .ok (.if_icmp .ne 12, 3) := by decide +kernel
theorem dX8_soldBy_23 : decode cX8_soldBy 23 = .ok (.aload_n 0, 1) := by decide +kernel
theorem dX8_soldBy_24 : decode cX8_soldBy 24 = .ok (.getfield 58, 3) := by decide +kernel
theorem dX8_soldBy_27 : decode cX8_soldBy 27 = .ok (.iload_n 3, 1) := by decide +kernel
theorem dX8_soldBy_28 : decode cX8_soldBy 28 = .ok (.iaload, 1) := by decide +kernel
theorem dX8_soldBy_29 : decode cX8_soldBy 29 = .ok (.goto 4, 3) := by decide +kernel
theorem dX8_soldBy_32 : decode cX8_soldBy 32 = .ok (.iconst 0, 1) := by decide +kernel
theorem dX8_soldBy_33 : decode cX8_soldBy 33 = .ok (.iadd, 1) := by decide +kernel
theorem dX8_soldBy_34 : decode cX8_soldBy 34 = .ok (.istore_n 2, 1) := by decide +kernel
theorem dX8_soldBy_35 : decode cX8_soldBy 35 = .ok (.iinc 3 1, 3) := by decide +kernel
theorem dX8_soldBy_38 : decode cX8_soldBy 38 = .ok (.goto (-34), 3) := by decide +kernel
theorem dX8_soldBy_41 : decode cX8_soldBy 41 = .ok (.iload_n 2, 1) := by decide +kernel
theorem dX8_soldBy_42 : decode cX8_soldBy 42 = .ok (.ireturn, 1) := by decide +kernel
theorem dX8_valueOf_0 : decode cX8_valueOf 0 = .ok (.aload_n 0, 1) := by decide +kernel
theorem dX8_valueOf_1 : decode cX8_valueOf 1 = .ok (.invokevirtual 128, 3) := by decide +kernel
theorem dX8_valueOf_4 : decode cX8_valueOf 4 = .ok (.istore 4, 2) := by decide +kernel
theorem dX8_valueOf_6 : decode cX8_valueOf 6 = .ok (.aload_n 0, 1) := by decide +kernel
theorem dX8_valueOf_7 : decode cX8_valueOf 7 = .ok (.iload_n 2, 1) := by decide +kernel
theorem dX8_valueOf_8 : decode cX8_valueOf 8 = .ok (.invokevirtual 251, 3) := by decide +kernel
theorem dX8_valueOf_11 : decode cX8_valueOf 11 = .ok (.istore 5, 2) := by decide +kernel
theorem dX8_valueOf_13 : decode cX8_valueOf 13 = .ok (.aload_n 0, 1) := by decide +kernel
theorem dX8_valueOf_14 : decode cX8_valueOf 14 = .ok (.iload_n 3, 1) := by decide +kernel
theorem dX8_valueOf_15 : decode cX8_valueOf 15 = .ok (.invokevirtual 251, 3) := by decide +kernel
theorem dX8_valueOf_18 : decode cX8_valueOf 18 = .ok (.istore 6, 2) := by decide +kernel
theorem dX8_valueOf_20 : decode cX8_valueOf 20 = .ok (.iload_n 1, 1) := by decide +kernel
theorem dX8_valueOf_21 : decode cX8_valueOf 21 = .ok (.bipush 115, 2) := by decide +kernel
theorem dX8_valueOf_23 : decode cX8_valueOf 23 = .ok (.if_icmp .ne 24, 3) := by decide +kernel
theorem dX8_valueOf_26 : decode cX8_valueOf 26 = .ok (.iload 4, 2) := by decide +kernel
theorem dX8_valueOf_28 : decode cX8_valueOf 28 = .ok (.ifCond .ne 7, 3) := by decide +kernel
theorem dX8_valueOf_31 : decode cX8_valueOf 31 = .ok (.iconst 0, 1) := by decide +kernel
theorem dX8_valueOf_32 : decode cX8_valueOf 32 = .ok (.goto 14, 3) := by decide +kernel
theorem dX8_valueOf_35 : decode cX8_valueOf 35 = .ok (.bipush 100, 2) := by decide +kernel
theorem dX8_valueOf_37 : decode cX8_valueOf 37 = .ok (.iload 5, 2) := by decide +kernel
theorem dX8_valueOf_39 : decode cX8_valueOf 39 = .ok (.iload 6, 2) := by decide +kernel
theorem dX8_valueOf_41 : decode cX8_valueOf 41 = .ok (.iadd, 1) := by decide +kernel
theorem dX8_valueOf_42 : decode cX8_valueOf 42 = .ok (.imul, 1) := by decide +kernel
theorem dX8_valueOf_43 : decode cX8_valueOf 43 = .ok (.iload 4, 2) := by decide +kernel
theorem dX8_valueOf_45 : decode cX8_valueOf 45 = .ok (.idiv, 1) := by decide +kernel
theorem dX8_valueOf_46 : decode cX8_valueOf 46 = .ok (.ireturn, 1) := by decide +kernel
theorem dX8_valueOf_47 : decode cX8_valueOf 47 = .ok (.iload_n 1, 1) := by decide +kernel
theorem dX8_valueOf_48 : decode cX8_valueOf 48 = .ok (.bipush 114, 2) := by decide +kernel
theorem dX8_valueOf_50 : decode cX8_valueOf 50 = .ok (.if_icmp .ne 32, 3) := by decide +kernel
theorem dX8_valueOf_53 : decode cX8_valueOf 53 = .ok (.iload 4, 2) := by decide +kernel
theorem dX8_valueOf_55 : decode cX8_valueOf 55 = .ok (.ifCond .ne 7, 3) := by decide +kernel
theorem dX8_valueOf_58 : decode cX8_valueOf 58 = .ok (.iconst 0, 1) := by decide +kernel
theorem dX8_valueOf_59 : decode cX8_valueOf 59 = .ok (.goto 22, 3) := by decide +kernel
theorem dX8_valueOf_62 : decode cX8_valueOf 62 = .ok (.iconst 2, 1) := by decide +kernel
theorem dX8_valueOf_63 : decode cX8_valueOf 63 = .ok (.bipush 100, 2) := by decide +kernel
theorem dX8_valueOf_65 : decode cX8_valueOf 65 = .ok (.iload 5, 2) := by decide +kernel
theorem dX8_valueOf_67 : decode cX8_valueOf 67 = .ok (.imul, 1) := by decide +kernel
theorem dX8_valueOf_68 : decode cX8_valueOf 68 = .ok (.iload 4, 2) := by decide +kernel
theorem dX8_valueOf_70 : decode cX8_valueOf 70 = .ok (.idiv, 1) := by decide +kernel
theorem dX8_valueOf_71 : decode cX8_valueOf 71 = .ok (.imul, 1) := by decide +kernel
theorem dX8_valueOf_72 : decode cX8_valueOf 72 = .ok (.bipush 100, 2) := by decide +kernel
theorem dX8_valueOf_74 : decode cX8_valueOf 74 = .ok (.iload 6, 2) := by decide +kernel
theorem dX8_valueOf_76 : decode cX8_valueOf 76 = .ok (.imul, 1) := by decide +kernel
theorem dX8_valueOf_77 : decode cX8_valueOf 77 = .ok (.iload 4, 2) := by decide +kernel
theorem dX8_valueOf_79 : decode cX8_valueOf 79 = .ok (.idiv, 1) := by decide +kernel
theorem dX8_valueOf_80 : decode cX8_valueOf 80 = .ok (.imul, 1) := by decide +kernel
theorem dX8_valueOf_81 : decode cX8_valueOf 81 = .ok (.ireturn, 1) := by decide +kernel
theorem dX8_valueOf_82 : decode cX8_valueOf 82 = .ok (.iload_n 1, 1) := by decide +kernel
theorem dX8_valueOf_83 : decode cX8_valueOf 83 = .ok (.bipush 111, 2) := by decide +kernel
theorem dX8_valueOf_85 : decode cX8_valueOf 85 = .ok (.if_icmp .ne 70, 3) := by decide +kernel
theorem dX8_valueOf_88 : decode cX8_valueOf 88 = .ok (.iload 5, 2) := by decide +kernel
theorem dX8_valueOf_90 : decode cX8_valueOf 90 = .ok (.iload 6, 2) := by decide +kernel
theorem dX8_valueOf_92 : decode cX8_valueOf 92 = .ok (.iadd, 1) := by decide +kernel
theorem dX8_valueOf_93 : decode cX8_valueOf 93 = .ok (.ifCond .le 7, 3) := by decide +kernel
theorem dX8_valueOf_96 : decode cX8_valueOf 96 = .ok (.iconst 1, 1) := by decide +kernel
theorem dX8_valueOf_97 : decode cX8_valueOf 97 = .ok (.goto 4, 3) := by decide +kernel
theorem dX8_valueOf_100 : decode cX8_valueOf 100 = .ok (.iconst 0, 1) := by decide +kernel
theorem dX8_valueOf_101 : decode cX8_valueOf 101 = .ok (.istore 7, 2) := by decide +kernel
theorem dX8_valueOf_103 : decode cX8_valueOf 103 = .ok (.iconst 0, 1) := by decide +kernel
theorem dX8_valueOf_104 : decode cX8_valueOf 104 = .ok (.istore 8, 2) := by decide +kernel
theorem dX8_valueOf_106 : decode cX8_valueOf 106 = .ok (.iload 8, 2) := by decide +kernel
theorem dX8_valueOf_108 : decode cX8_valueOf 108 = .ok (.aload_n 0, 1) := by decide +kernel
theorem dX8_valueOf_109 : decode cX8_valueOf 109 = .ok (.getfield 91, 3) := by decide +kernel
theorem dX8_valueOf_112 : decode cX8_valueOf 112 = .ok (.if_icmp .ge 40, 3) := by decide +kernel
theorem dX8_valueOf_115 : decode cX8_valueOf 115 = .ok (.iload 7, 2) := by decide +kernel
theorem dX8_valueOf_117 : decode cX8_valueOf 117 = .ok (.iload 8, 2) := by decide +kernel
theorem dX8_valueOf_119 : decode cX8_valueOf 119 = .ok (.iload_n 2, 1) := by decide +kernel
theorem dX8_valueOf_120 : decode cX8_valueOf 120 = .ok (.if_icmp .eq 22, 3) := by decide +kernel
theorem dX8_valueOf_123 : decode cX8_valueOf 123 = .ok (.iload 8, 2) := by decide +kernel
theorem dX8_valueOf_125 : decode cX8_valueOf 125 = .ok (.iload_n 3, 1) := by decide +kernel
theorem dX8_valueOf_126 : decode cX8_valueOf 126 = .ok (.if_icmp .eq 16, 3) := by decide +kernel
theorem dX8_valueOf_129 : decode cX8_valueOf 129 = .ok (.aload_n 0, 1) := by decide +kernel
theorem dX8_valueOf_130 : decode cX8_valueOf 130 = .ok (.iload 8, 2) := by decide +kernel
theorem dX8_valueOf_132 : decode cX8_valueOf 132 = .ok (.invokevirtual 251, 3) := by decide +kernel
theorem dX8_valueOf_135 : decode cX8_valueOf 135 = .ok (.ifCond .le 7, 3) := by decide +kernel
theorem dX8_valueOf_138 : decode cX8_valueOf 138 = .ok (.iconst 1, 1) := by decide +kernel
theorem dX8_valueOf_139 : decode cX8_valueOf 139 = .ok (.goto 4, 3) := by decide +kernel
theorem dX8_valueOf_142 : decode cX8_valueOf 142 = .ok (.iconst 0, 1) := by decide +kernel
theorem dX8_valueOf_143 : decode cX8_valueOf 143 = .ok (.iadd, 1) := by decide +kernel
theorem dX8_valueOf_144 : decode cX8_valueOf 144 = .ok (.istore 7, 2) := by decide +kernel
theorem dX8_valueOf_146 : decode cX8_valueOf 146 = .ok (.iinc 8 1, 3) := by decide +kernel
theorem dX8_valueOf_149 : decode cX8_valueOf 149 = .ok (.goto (-43), 3) := by decide +kernel
theorem dX8_valueOf_152 : decode cX8_valueOf 152 = .ok (.iload 7, 2) := by decide +kernel
theorem dX8_valueOf_154 : decode cX8_valueOf 154 = .ok (.ireturn, 1) := by decide +kernel
theorem dX8_valueOf_155 : decode cX8_valueOf 155 = .ok (.bipush 99, 2) := by decide +kernel
theorem dX8_valueOf_157 : decode cX8_valueOf 157 = .ok (.istore 7, 2) := by decide +kernel
theorem dX8_valueOf_159 : decode cX8_valueOf 159 = .ok (.iconst 0, 1) := by decide +kernel
theorem dX8_valueOf_160 : decode cX8_valueOf 160 = .ok (.istore 8, 2) := by decide +kernel
theorem dX8_valueOf_162 : decode cX8_valueOf 162 = .ok (.iload 8, 2) := by decide +kernel
theorem dX8_valueOf_164 : decode cX8_valueOf 164 = .ok (.aload_n 0, 1) := by decide +kernel
theorem dX8_valueOf_165 : decode cX8_valueOf 165 = .ok (.getfield 98, 3) := by decide +kernel
theorem dX8_valueOf_168 : decode cX8_valueOf 168 = .ok (.if_icmp .ge 115, 3) := by decide +kernel
theorem dX8_valueOf_171 : decode cX8_valueOf 171 = .ok (.iconst 0, 1) := by decide +kernel
theorem dX8_valueOf_172 : decode cX8_valueOf 172 = .ok (.istore 9, 2) := by decide +kernel
theorem dX8_valueOf_174 : decode cX8_valueOf 174 = .ok (.iload 9, 2) := by decide +kernel
theorem dX8_valueOf_176 : decode cX8_valueOf 176 = .ok (.aload_n 0, 1) := by decide +kernel
theorem dX8_valueOf_177 : decode cX8_valueOf 177 = .ok (.getfield 98, 3) := by decide +kernel
theorem dX8_valueOf_180 : decode cX8_valueOf 180 = .ok (.if_icmp .ge 97, 3) := by decide +kernel
theorem dX8_valueOf_183 : decode cX8_valueOf 183 = .ok (.aload_n 0, 1) := by decide +kernel
theorem dX8_valueOf_184 : decode cX8_valueOf 184 = .ok (.getfield 20, 3) := by decide +kernel
theorem dX8_valueOf_187 : decode cX8_valueOf 187 = .ok (.iload 8, 2) := by decide +kernel
theorem dX8_valueOf_189 : decode cX8_valueOf 189 = .ok (.iaload, 1) := by decide +kernel
theorem dX8_valueOf_190 : decode cX8_valueOf 190 = .ok (.iload_n 2, 1) := by decide +kernel
theorem dX8_valueOf_191 : decode cX8_valueOf 191 = .ok (.if_icmp .ne 36, 3) := by decide +kernel
theorem dX8_valueOf_194 : decode cX8_valueOf 194 = .ok (.aload_n 0, 1) := by decide +kernel
theorem dX8_valueOf_195 : decode cX8_valueOf 195 = .ok (.getfield 20, 3) := by decide +kernel
theorem dX8_valueOf_198 : decode cX8_valueOf 198 = .ok (.iload 9, 2) := by decide +kernel
theorem dX8_valueOf_200 : decode cX8_valueOf 200 = .ok (.iaload, 1) := by decide +kernel
theorem dX8_valueOf_201 : decode cX8_valueOf 201 = .ok (.iload_n 3, 1) := by decide +kernel
theorem dX8_valueOf_202 : decode cX8_valueOf 202 = .ok (.if_icmp .ne 25, 3) := by decide +kernel
theorem dX8_valueOf_205 : decode cX8_valueOf 205 = .ok (.aload_n 0, 1) := by decide +kernel
theorem dX8_valueOf_206 : decode cX8_valueOf 206 = .ok (.iload 8, 2) := by decide +kernel
theorem dX8_valueOf_208 : decode cX8_valueOf 208 = .ok (.invokevirtual 119, 3) := by decide +kernel
theorem dX8_valueOf_211 : decode cX8_valueOf 211 = .ok (.ifCond .eq 16, 3) := by decide +kernel
theorem dX8_valueOf_214 : decode cX8_valueOf 214 = .ok (.aload_n 0, 1) := by decide +kernel
theorem dX8_valueOf_215 : decode cX8_valueOf 215 = .ok (.iload 9, 2) := by decide +kernel
theorem dX8_valueOf_217 : decode cX8_valueOf 217 = .ok (.invokevirtual 119, 3) := by decide +kernel
theorem dX8_valueOf_220 : decode cX8_valueOf 220 = .ok (.ifCond .eq 7, 3) := by decide +kernel
theorem dX8_valueOf_223 : decode cX8_valueOf 223 = .ok (.iconst 1, 1) := by decide +kernel
theorem dX8_valueOf_224 : decode cX8_valueOf 224 = .ok (.goto 4, 3) := by decide +kernel
theorem dX8_valueOf_227 : decode cX8_valueOf 227 = .ok (.iconst 0, 1) := by decide +kernel
theorem dX8_valueOf_228 : decode cX8_valueOf 228 = .ok (.istore 10, 2) := by decide +kernel
theorem dX8_valueOf_230 : decode cX8_valueOf 230 = .ok (.aload_n 0, 1) := by decide +kernel
theorem dX8_valueOf_231 : decode cX8_valueOf 231 = .ok (.getfield 23, 3) := by decide +kernel
theorem dX8_valueOf_234 : decode cX8_valueOf 234 = .ok (.iload 8, 2) := by decide +kernel
theorem dX8_valueOf_236 : decode cX8_valueOf 236 = .ok (.iaload, 1) := by decide +kernel
theorem dX8_valueOf_237 : decode cX8_valueOf 237 = .ok (.aload_n 0, 1) := by decide +kernel
theorem dX8_valueOf_238 : decode cX8_valueOf 238 = .ok (.getfield 23, 3) := by decide +kernel
theorem dX8_valueOf_241 : decode cX8_valueOf 241 = .ok (.iload 9, 2) := by decide +kernel
theorem dX8_valueOf_243 : decode cX8_valueOf 243 = .ok (.iaload, 1) := by decide +kernel
theorem dX8_valueOf_244 : decode cX8_valueOf 244 = .ok (.isub, 1) := by decide +kernel
theorem dX8_valueOf_245 : decode cX8_valueOf 245 = .ok (.invokestatic 116, 3) := by decide +kernel
theorem dX8_valueOf_248 : decode cX8_valueOf 248 = .ok (.istore 11, 2) := by decide +kernel
theorem dX8_valueOf_250 : decode cX8_valueOf 250 = .ok (.iload 10, 2) := by decide +kernel
theorem dX8_valueOf_252 : decode cX8_valueOf 252 = .ok (.ifCond .eq 15, 3) := by decide +kernel
theorem dX8_valueOf_255 : decode cX8_valueOf 255 = .ok (.iload 11, 2) := by decide +kernel
theorem dX8_valueOf_257 : decode cX8_valueOf 257 = .ok (.iload 7, 2) := by decide +kernel
theorem dX8_valueOf_259 : decode cX8_valueOf 259 = .ok (.if_icmp .ge 8, 3) := by decide +kernel
theorem dX8_valueOf_262 : decode cX8_valueOf 262 = .ok (.iload 11, 2) := by decide +kernel
theorem dX8_valueOf_264 : decode cX8_valueOf 264 = .ok (.goto 5, 3) := by decide +kernel
theorem dX8_valueOf_267 : decode cX8_valueOf 267 = .ok (.iload 7, 2) := by decide +kernel
theorem dX8_valueOf_269 : decode cX8_valueOf 269 = .ok (.istore 7, 2) := by decide +kernel
theorem dX8_valueOf_271 : decode cX8_valueOf 271 = .ok (.iinc 9 1, 3) := by decide +kernel
theorem dX8_valueOf_274 : decode cX8_valueOf 274 = .ok (.goto (-100), 3) := by decide +kernel
theorem dX8_valueOf_277 : decode cX8_valueOf 277 = .ok (.iinc 8 1, 3) := by decide +kernel
theorem dX8_valueOf_280 : decode cX8_valueOf 280 = .ok (.goto (-118), 3) := by decide +kernel
theorem dX8_valueOf_283 : decode cX8_valueOf 283 = .ok (.iload 7, 2) := by decide +kernel
theorem dX8_valueOf_285 : decode cX8_valueOf 285 = .ok (.ireturn, 1) := by decide +kernel
theorem dX8_openGroup_0 : decode cX8_openGroup 0 = .ok (.aload_n 0, 1) := by decide +kernel
theorem dX8_openGroup_1 : decode cX8_openGroup 1 = .ok (.dup, 1) := by decide +kernel
theorem dX8_openGroup_2 : decode cX8_openGroup 2 = .ok (.getfield 254, 3) := by decide +kernel
theorem dX8_openGroup_5 : decode cX8_openGroup 5 = .ok (.iconst 1, 1) := by decide +kernel
theorem dX8_openGroup_6 : decode cX8_openGroup 6 = .ok (.iadd, 1) := by decide +kernel
theorem dX8_openGroup_7 : decode cX8_openGroup 7 = .ok (.putfield 254, 3) := by decide +kernel
theorem dX8_openGroup_10 : decode cX8_openGroup 10 = .ok (.aload_n 0, 1) := by decide +kernel
theorem dX8_openGroup_11 : decode cX8_openGroup 11 = .ok (.getfield 82, 3) := by decide +kernel
theorem dX8_openGroup_14 : decode cX8_openGroup 14 = .ok (.aload_n 0, 1) := by decide +kernel
theorem dX8_openGroup_15 : decode cX8_openGroup 15 = .ok (.getfield 254, 3) := by decide +kernel
theorem dX8_openGroup_18 : decode cX8_openGroup 18 = .ok (.iconst 0, 1) := by decide +kernel
theorem dX8_openGroup_19 : decode cX8_openGroup 19 = .ok (.bastore, 1) := by decide +kernel
theorem dX8_openGroup_20 : decode cX8_openGroup 20 = .ok (.aload_n 0, 1) := by decide +kernel
theorem dX8_openGroup_21 : decode cX8_openGroup 21 = .ok (.getfield 85, 3) := by decide +kernel
theorem dX8_openGroup_24 : decode cX8_openGroup 24 = .ok (.aload_n 0, 1) := by decide +kernel
theorem dX8_openGroup_25 : decode cX8_openGroup 25 = .ok (.getfield 254, 3) := by decide +kernel
theorem dX8_openGroup_28 : decode cX8_openGroup 28 = .ok (.iconst 1, 1) := by decide +kernel
theorem dX8_openGroup_29 : decode cX8_openGroup 29 = .ok (.bastore, 1) := by decide +kernel
theorem dX8_openGroup_30 : decode cX8_openGroup 30 = .ok (.aload_n 0, 1) := by decide +kernel
theorem dX8_openGroup_31 : decode cX8_openGroup 31 = .ok (.getfield 88, 3) := by decide +kernel
theorem dX8_openGroup_34 : decode cX8_openGroup 34 = .ok (.aload_n 0, 1) := by decide +kernel
theorem dX8_openGroup_35 : decode cX8_openGroup 35 = .ok (.getfield 254, 3) := by decide +kernel
theorem dX8_openGroup_38 : decode cX8_openGroup 38 = .ok (.iconst 0, 1) := by decide +kernel
theorem dX8_openGroup_39 : decode cX8_openGroup 39 = .ok (.bastore, 1) := by decide +kernel
theorem dX8_openGroup_40 : decode cX8_openGroup 40 = .ok (.return_, 1) := by decide +kernel
theorem dX8_factor_0 : decode cX8_factor 0 = .ok (.aload_n 0, 1) := by decide +kernel
theorem dX8_factor_1 : decode cX8_factor 1 = .ok (.getfield 85, 3) := by decide +kernel
theorem dX8_factor_4 : decode cX8_factor 4 = .ok (.aload_n 0, 1) := by decide +kernel
theorem dX8_factor_5 : decode cX8_factor 5 = .ok (.getfield 254, 3) := by decide +kernel
theorem dX8_factor_8 : decode cX8_factor 8 = .ok (.aload_n 0, 1) := by decide +kernel
theorem dX8_factor_9 : decode cX8_factor 9 = .ok (.getfield 85, 3) := by decide +kernel
theorem dX8_factor_12 : decode cX8_factor 12 = .ok (.aload_n 0, 1) := by decide +kernel
theorem dX8_factor_13 : decode cX8_factor 13 = .ok (.getfield 254, 3) := by decide +kernel
theorem dX8_factor_16 : decode cX8_factor 16 = .ok (.baload, 1) := by decide +kernel
theorem dX8_factor_17 : decode cX8_factor 17 = .ok (.ifCond .eq 20, 3) := by decide +kernel
theorem dX8_factor_20 : decode cX8_factor 20 = .ok (.iload_n 1, 1) := by decide +kernel
theorem dX8_factor_21 : decode cX8_factor 21 = .ok (.aload_n 0, 1) := by decide +kernel
theorem dX8_factor_22 : decode cX8_factor 22 = .ok (.getfield 88, 3) := by decide +kernel
theorem dX8_factor_25 : decode cX8_factor 25 = .ok (.aload_n 0, 1) := by decide +kernel
theorem dX8_factor_26 : decode cX8_factor 26 = .ok (.getfield 254, 3) := by decide +kernel
theorem dX8_factor_29 : decode cX8_factor 29 = .ok (.baload, 1) := by decide +kernel
theorem dX8_factor_30 : decode cX8_factor 30 = .ok (.if_icmp .eq 7, 3) := by decide +kernel
theorem dX8_factor_33 : decode cX8_factor 33 = .ok (.iconst 1, 1) := by decide +kernel
theorem dX8_factor_34 : decode cX8_factor 34 = .ok (.goto 4, 3) := by decide +kernel
theorem dX8_factor_37 : decode cX8_factor 37 = .ok (.iconst 0, 1) := by decide +kernel
theorem dX8_factor_38 : decode cX8_factor 38 = .ok (.bastore, 1) := by decide +kernel
theorem dX8_factor_39 : decode cX8_factor 39 = .ok (.aload_n 0, 1) := by decide +kernel
theorem dX8_factor_40 : decode cX8_factor 40 = .ok (.getfield 88, 3) := by decide +kernel
theorem dX8_factor_43 : decode cX8_factor 43 = .ok (.aload_n 0, 1) := by decide +kernel
theorem dX8_factor_44 : decode cX8_factor 44 = .ok (.getfield 254, 3) := by decide +kernel
theorem dX8_factor_47 : decode cX8_factor 47 = .ok (.iconst 0, 1) := by decide +kernel
theorem dX8_factor_48 : decode cX8_factor 48 = .ok (.bastore, 1) := by decide +kernel
theorem dX8_factor_49 : decode cX8_factor 49 = .ok (.return_, 1) := by decide +kernel
theorem dX8_barsNow_0 : decode cX8_barsNow 0 = .ok (.aload_n 0, 1) := by decide +kernel
theorem dX8_barsNow_1 : decode cX8_barsNow 1 = .ok (.iconst (-1), 1) := by decide +kernel
theorem dX8_barsNow_2 : decode cX8_barsNow 2 = .ok (.putfield 254, 3) := by decide +kernel
theorem dX8_barsNow_5 : decode cX8_barsNow 5 = .ok (.aload_n 0, 1) := by decide +kernel
theorem dX8_barsNow_6 : decode cX8_barsNow 6 = .ok (.invokevirtual 257, 3) := by decide +kernel
theorem dX8_barsNow_9 : decode cX8_barsNow 9 = .ok (.iconst 0, 1) := by decide +kernel
theorem dX8_barsNow_10 : decode cX8_barsNow 10 = .ok (.istore 4, 2) := by decide +kernel
theorem dX8_barsNow_12 : decode cX8_barsNow 12 = .ok (.iload 4, 2) := by decide +kernel
theorem dX8_barsNow_14 : decode cX8_barsNow 14 = .ok (.aload_n 0, 1) := by decide +kernel
theorem dX8_barsNow_15 : decode cX8_barsNow 15 = .ok (.getfield 39, 3) := by decide +kernel
theorem dX8_barsNow_18 : decode cX8_barsNow 18 = .ok (.iload_n 1, 1) := by decide +kernel
theorem dX8_barsNow_19 : decode cX8_barsNow 19 = .ok (.iaload, 1) := by decide +kernel
theorem dX8_barsNow_20 : decode cX8_barsNow 20 = .ok (.if_icmp .ge 343, 3) := by decide +kernel
theorem dX8_barsNow_23 : decode cX8_barsNow 23 = .ok (.aload_n 0, 1) := by decide +kernel
theorem dX8_barsNow_24 : decode cX8_barsNow 24 = .ok (.getfield 35, 3) := by decide +kernel
theorem dX8_barsNow_27 : decode cX8_barsNow 27 = .ok (.bipush 50, 2) := by decide +kernel
theorem dX8_barsNow_29 : decode cX8_barsNow 29 = .ok (.iload_n 1, 1) := by decide +kernel
theorem dX8_barsNow_30 : decode cX8_barsNow 30 = .ok (.imul, 1) := by decide +kernel
theorem dX8_barsNow_31 : decode cX8_barsNow 31 = .ok (.iload 4, 2) := by decide +kernel
theorem dX8_barsNow_33 : decode cX8_barsNow 33 = .ok (.iadd, 1) := by decide +kernel
theorem dX8_barsNow_34 : decode cX8_barsNow 34 = .ok (.baload, 1) := by decide +kernel
theorem dX8_barsNow_35 : decode cX8_barsNow 35 = .ok (.istore 5, 2) := by decide +kernel
theorem dX8_barsNow_37 : decode cX8_barsNow 37 = .ok (.iinc 4 1, 3) := by decide +kernel
theorem dX8_barsNow_40 : decode cX8_barsNow 40 = .ok (.iload 5, 2) := by decide +kernel
theorem dX8_barsNow_42 : decode cX8_barsNow 42 = .ok (.bipush 33, 2) := by decide +kernel
theorem dX8_barsNow_44 : decode cX8_barsNow 44 = .ok (.if_icmp .ne 32, 3) := by decide +kernel
theorem dX8_barsNow_47 : decode cX8_barsNow 47 = .ok (.aload_n 0, 1) := by decide +kernel
theorem dX8_barsNow_48 : decode cX8_barsNow 48 = .ok (.getfield 88, 3) := by decide +kernel
theorem dX8_barsNow_51 : decode cX8_barsNow 51 = .ok (.aload_n 0, 1) := by decide +kernel
theorem dX8_barsNow_52 : decode cX8_barsNow 52 = .ok (.getfield 254, 3) := by decide +kernel
theorem dX8_barsNow_55 : decode cX8_barsNow 55 = .ok (.aload_n 0, 1) := by decide +kernel
theorem dX8_barsNow_56 : decode cX8_barsNow 56 = .ok (.getfield 88, 3) := by decide +kernel
theorem dX8_barsNow_59 : decode cX8_barsNow 59 = .ok (.aload_n 0, 1) := by decide +kernel
theorem dX8_barsNow_60 : decode cX8_barsNow 60 = .ok (.getfield 254, 3) := by decide +kernel
theorem dX8_barsNow_63 : decode cX8_barsNow 63 = .ok (.baload, 1) := by decide +kernel
theorem dX8_barsNow_64 : decode cX8_barsNow 64 = .ok (.ifCond .ne 7, 3) := by decide +kernel
theorem dX8_barsNow_67 : decode cX8_barsNow 67 = .ok (.iconst 1, 1) := by decide +kernel
theorem dX8_barsNow_68 : decode cX8_barsNow 68 = .ok (.goto 4, 3) := by decide +kernel
theorem dX8_barsNow_71 : decode cX8_barsNow 71 = .ok (.iconst 0, 1) := by decide +kernel
theorem dX8_barsNow_72 : decode cX8_barsNow 72 = .ok (.bastore, 1) := by decide +kernel
theorem dX8_barsNow_73 : decode cX8_barsNow 73 = .ok (.goto 287, 3) := by decide +kernel
theorem dX8_barsNow_76 : decode cX8_barsNow 76 = .ok (.iload 5, 2) := by decide +kernel
theorem dX8_barsNow_78 : decode cX8_barsNow 78 = .ok (.bipush 40, 2) := by decide +kernel
theorem dX8_barsNow_80 : decode cX8_barsNow 80 = .ok (.if_icmp .ne 10, 3) := by decide +kernel
theorem dX8_barsNow_83 : decode cX8_barsNow 83 = .ok (.aload_n 0, 1) := by decide +kernel
theorem dX8_barsNow_84 : decode cX8_barsNow 84 = .ok (.invokevirtual 257, 3) := by decide +kernel
theorem dX8_barsNow_87 : decode cX8_barsNow 87 = .ok (.goto 273, 3) := by decide +kernel
theorem dX8_barsNow_90 : decode cX8_barsNow 90 = .ok (.iload 5, 2) := by decide +kernel
theorem dX8_barsNow_92 : decode cX8_barsNow 92 = .ok (.bipush 41, 2) := by decide +kernel
theorem dX8_barsNow_94 : decode cX8_barsNow 94 = .ok (.if_icmp .ne 53, 3) := by decide +kernel
theorem dX8_barsNow_97 : decode cX8_barsNow 97 = .ok (.aload_n 0, 1) := by decide +kernel
theorem dX8_barsNow_98 : decode cX8_barsNow 98 = .ok (.getfield 82, 3) := by decide +kernel
theorem dX8_barsNow_101 : decode cX8_barsNow 101 = .ok (.aload_n 0, 1) := by decide +kernel
theorem dX8_barsNow_102 : decode cX8_barsNow 102 = .ok (.getfield 254, 3) := by decide +kernel
theorem dX8_barsNow_105 : decode cX8_barsNow 105 = .ok (.baload, 1) := by decide +kernel
theorem dX8_barsNow_106 : decode cX8_barsNow 106 = .ok (.ifCond .ne 15, 3) := by decide +kernel
theorem dX8_barsNow_109 : decode cX8_barsNow 109 = .ok (.aload_n 0, 1) := by decide +kernel
theorem dX8_barsNow_110 : decode cX8_barsNow 110 = .ok (.getfield 85, 3) := by decide +kernel
theorem dX8_barsNow_113 : decode cX8_barsNow 113 = .ok (.aload_n 0, 1) := by decide +kernel
theorem dX8_barsNow_114 : decode cX8_barsNow 114 = .ok (.getfield 254, 3) := by decide +kernel
theorem dX8_barsNow_117 : decode cX8_barsNow 117 = .ok (.baload, 1) := by decide +kernel
theorem dX8_barsNow_118 : decode cX8_barsNow 118 = .ok (.ifCond .eq 7, 3) := by decide +kernel
theorem dX8_barsNow_121 : decode cX8_barsNow 121 = .ok (.iconst 1, 1) := by decide +kernel
theorem dX8_barsNow_122 : decode cX8_barsNow 122 = .ok (.goto 4, 3) := by decide +kernel
theorem dX8_barsNow_125 : decode cX8_barsNow 125 = .ok (.iconst 0, 1) := by decide +kernel
theorem dX8_barsNow_126 : decode cX8_barsNow 126 = .ok (.istore 6, 2) := by decide +kernel
theorem dX8_barsNow_128 : decode cX8_barsNow 128 = .ok (.aload_n 0, 1) := by decide +kernel
theorem dX8_barsNow_129 : decode cX8_barsNow 129 = .ok (.dup, 1) := by decide +kernel
theorem dX8_barsNow_130 : decode cX8_barsNow 130 = .ok (.getfield 254, 3) := by decide +kernel
theorem dX8_barsNow_133 : decode cX8_barsNow 133 = .ok (.iconst 1, 1) := by decide +kernel
theorem dX8_barsNow_134 : decode cX8_barsNow 134 = .ok (.isub, 1) := by decide +kernel
theorem dX8_barsNow_135 : decode cX8_barsNow 135 = .ok (.putfield 254, 3) := by decide +kernel
theorem dX8_barsNow_138 : decode cX8_barsNow 138 = .ok (.aload_n 0, 1) := by decide +kernel
theorem dX8_barsNow_139 : decode cX8_barsNow 139 = .ok (.iload 6, 2) := by decide +kernel
theorem dX8_barsNow_141 : decode cX8_barsNow 141 = .ok (.invokevirtual 260, 3) := by decide +kernel
theorem dX8_barsNow_144 : decode cX8_barsNow 144 = .ok (.goto 216, 3) := by decide +kernel
theorem dX8_barsNow_147 : decode cX8_barsNow 147 = .ok (.iload 5, 2) := by decide +kernel
theorem dX8_barsNow_149 : decode cX8_barsNow 149 = .ok (.bipush 124, 2) := by decide +kernel
theorem dX8_barsNow_151 : decode cX8_barsNow 151 = .ok (.if_icmp .ne 54, 3) := by decide +kernel
theorem dX8_barsNow_154 : decode cX8_barsNow 154 = .ok (.aload_n 0, 1) := by decide +kernel
theorem dX8_barsNow_155 : decode cX8_barsNow 155 = .ok (.getfield 82, 3) := by decide +kernel
theorem dX8_barsNow_158 : decode cX8_barsNow 158 = .ok (.aload_n 0, 1) := by decide +kernel
theorem dX8_barsNow_159 : decode cX8_barsNow 159 = .ok (.getfield 254, 3) := by decide +kernel
theorem dX8_barsNow_162 : decode cX8_barsNow 162 = .ok (.aload_n 0, 1) := by decide +kernel
theorem dX8_barsNow_163 : decode cX8_barsNow 163 = .ok (.getfield 82, 3) := by decide +kernel
theorem dX8_barsNow_166 : decode cX8_barsNow 166 = .ok (.aload_n 0, 1) := by decide +kernel
theorem dX8_barsNow_167 : decode cX8_barsNow 167 = .ok (.getfield 254, 3) := by decide +kernel
theorem dX8_barsNow_170 : decode cX8_barsNow 170 = .ok (.baload, 1) := by decide +kernel
theorem dX8_barsNow_171 : decode cX8_barsNow 171 = .ok (.ifCond .ne 15, 3) := by decide +kernel
theorem dX8_barsNow_174 : decode cX8_barsNow 174 = .ok (.aload_n 0, 1) := by decide +kernel
theorem dX8_barsNow_175 : decode cX8_barsNow 175 = .ok (.getfield 85, 3) := by decide +kernel
theorem dX8_barsNow_178 : decode cX8_barsNow 178 = .ok (.aload_n 0, 1) := by decide +kernel
theorem dX8_barsNow_179 : decode cX8_barsNow 179 = .ok (.getfield 254, 3) := by decide +kernel
theorem dX8_barsNow_182 : decode cX8_barsNow 182 = .ok (.baload, 1) := by decide +kernel
theorem dX8_barsNow_183 : decode cX8_barsNow 183 = .ok (.ifCond .eq 7, 3) := by decide +kernel
theorem dX8_barsNow_186 : decode cX8_barsNow 186 = .ok (.iconst 1, 1) := by decide +kernel
theorem dX8_barsNow_187 : decode cX8_barsNow 187 = .ok (.goto 4, 3) := by decide +kernel
theorem dX8_barsNow_190 : decode cX8_barsNow 190 = .ok (.iconst 0, 1) := by decide +kernel
theorem dX8_barsNow_191 : decode cX8_barsNow 191 = .ok (.bastore, 1) := by decide +kernel
theorem dX8_barsNow_192 : decode cX8_barsNow 192 = .ok (.aload_n 0, 1) := by decide +kernel
theorem dX8_barsNow_193 : decode cX8_barsNow 193 = .ok (.getfield 85, 3) := by decide +kernel
theorem dX8_barsNow_196 : decode cX8_barsNow 196 = .ok (.aload_n 0, 1) := by decide +kernel
theorem dX8_barsNow_197 : decode cX8_barsNow 197 = .ok (.getfield 254, 3) := by decide +kernel
theorem dX8_barsNow_200 : decode cX8_barsNow 200 = .ok (.iconst 1, 1) := by decide +kernel
theorem dX8_barsNow_201 : decode cX8_barsNow 201 = .ok (.bastore, 1) := by decide +kernel
theorem dX8_barsNow_202 : decode cX8_barsNow 202 = .ok (.goto 158, 3) := by decide +kernel
theorem dX8_barsNow_205 : decode cX8_barsNow 205 = .ok (.iload 5, 2) := by decide +kernel
theorem dX8_barsNow_207 : decode cX8_barsNow 207 = .ok (.bipush 38, 2) := by decide +kernel
theorem dX8_barsNow_209 : decode cX8_barsNow 209 = .ok (.if_icmp .eq 151, 3) := by decide +kernel
theorem dX8_barsNow_212 : decode cX8_barsNow 212 = .ok (.aload_n 0, 1) := by decide +kernel
theorem dX8_barsNow_213 : decode cX8_barsNow 213 = .ok (.getfield 35, 3) := by decide +kernel
theorem dX8_barsNow_216 : decode cX8_barsNow 216 = .ok (.bipush 50, 2) := by decide +kernel
theorem dX8_barsNow_218 : decode cX8_barsNow 218 = .ok (.iload_n 1, 1) := by decide +kernel
theorem dX8_barsNow_219 : decode cX8_barsNow 219 = .ok (.imul, 1) := by decide +kernel
theorem dX8_barsNow_220 : decode cX8_barsNow 220 = .ok (.iload 4, 2) := by decide +kernel
theorem dX8_barsNow_222 : decode cX8_barsNow 222 = .ok (.iadd, 1) := by decide +kernel
theorem dX8_barsNow_223 : decode cX8_barsNow 223 = .ok (.baload, 1) := by decide +kernel
theorem dX8_barsNow_224 : decode cX8_barsNow 224 = .ok (.istore 6, 2) := by decide +kernel
theorem dX8_barsNow_226 : decode cX8_barsNow 226 = .ok (.iinc 4 1, 3) := by decide +kernel
theorem dX8_barsNow_229 : decode cX8_barsNow 229 = .ok (.iconst 0, 1) := by decide +kernel
theorem dX8_barsNow_230 : decode cX8_barsNow 230 = .ok (.istore 7, 2) := by decide +kernel
theorem dX8_barsNow_232 : decode cX8_barsNow 232 = .ok (.iload 4, 2) := by decide +kernel
theorem dX8_barsNow_234 : decode cX8_barsNow 234 = .ok (.aload_n 0, 1) := by decide +kernel
theorem dX8_barsNow_235 : decode cX8_barsNow 235 = .ok (.getfield 39, 3) := by decide +kernel
theorem dX8_barsNow_238 : decode cX8_barsNow 238 = .ok (.iload_n 1, 1) := by decide +kernel
theorem dX8_barsNow_239 : decode cX8_barsNow 239 = .ok (.iaload, 1) := by decide +kernel
theorem dX8_barsNow_240 : decode cX8_barsNow 240 = .ok (.if_icmp .ge 50, 3) := by decide +kernel
theorem dX8_barsNow_243 : decode cX8_barsNow 243 = .ok (.aload_n 0, 1) := by decide +kernel
theorem dX8_barsNow_244 : decode cX8_barsNow 244 = .ok (.getfield 35, 3) := by decide +kernel
theorem dX8_barsNow_247 : decode cX8_barsNow 247 = .ok (.bipush 50, 2) := by decide +kernel
theorem dX8_barsNow_249 : decode cX8_barsNow 249 = .ok (.iload_n 1, 1) := by decide +kernel
theorem dX8_barsNow_250 : decode cX8_barsNow 250 = .ok (.imul, 1) := by decide +kernel
theorem dX8_barsNow_251 : decode cX8_barsNow 251 = .ok (.iload 4, 2) := by decide +kernel
theorem dX8_barsNow_253 : decode cX8_barsNow 253 = .ok (.iadd, 1) := by decide +kernel
theorem dX8_barsNow_254 : decode cX8_barsNow 254 = .ok (.baload, 1) := by decide +kernel
theorem dX8_barsNow_255 : decode cX8_barsNow 255 = .ok (.invokestatic 236, 3) := by decide +kernel
theorem dX8_barsNow_258 : decode cX8_barsNow 258 = .ok (.ifCond .eq 32, 3) := by decide +kernel
theorem dX8_barsNow_261 : decode cX8_barsNow 261 = .ok (.bipush 10, 2) := by decide +kernel
theorem dX8_barsNow_263 : decode cX8_barsNow 263 = .ok (.iload 7, 2) := by decide +kernel
theorem dX8_barsNow_265 : decode cX8_barsNow 265 = .ok (.imul, 1) := by decide +kernel
theorem dX8_barsNow_266 : decode cX8_barsNow 266 = .ok (.aload_n 0, 1) := by decide +kernel
theorem dX8_barsNow_267 : decode cX8_barsNow 267 = .ok (.getfield 35, 3) := by decide +kernel
theorem dX8_barsNow_270 : decode cX8_barsNow 270 = .ok (.bipush 50, 2) := by decide +kernel
theorem dX8_barsNow_272 : decode cX8_barsNow 272 = .ok (.iload_n 1, 1) := by decide +kernel
theorem dX8_barsNow_273 : decode cX8_barsNow 273 = .ok (.imul, 1) := by decide +kernel
theorem dX8_barsNow_274 : decode cX8_barsNow 274 = .ok (.iload 4, 2) := by decide +kernel
theorem dX8_barsNow_276 : decode cX8_barsNow 276 = .ok (.iadd, 1) := by decide +kernel
theorem dX8_barsNow_277 : decode cX8_barsNow 277 = .ok (.baload, 1) := by decide +kernel
theorem dX8_barsNow_278 : decode cX8_barsNow 278 = .ok (.iadd, 1) := by decide +kernel
theorem dX8_barsNow_279 : decode cX8_barsNow 279 = .ok (.bipush 48, 2) := by decide +kernel
theorem dX8_barsNow_281 : decode cX8_barsNow 281 = .ok (.isub, 1) := by decide +kernel
theorem dX8_barsNow_282 : decode cX8_barsNow 282 = .ok (.istore 7, 2) := by decide +kernel
theorem dX8_barsNow_284 : decode cX8_barsNow 284 = .ok (.iinc 4 1, 3) := by decide +kernel
theorem dX8_barsNow_287 : decode cX8_barsNow 287 = .ok (.goto (-55), 3) := by decide +kernel
theorem dX8_barsNow_290 : decode cX8_barsNow 290 = .ok (.aload_n 0, 1) := by decide +kernel
theorem dX8_barsNow_291 : decode cX8_barsNow 291 = .ok (.iload 5, 2) := by decide +kernel
theorem dX8_barsNow_293 : decode cX8_barsNow 293 = .ok (.iload_n 2, 1) := by decide +kernel
theorem dX8_barsNow_294 : decode cX8_barsNow 294 = .ok (.iload_n 3, 1) := by decide +kernel
theorem dX8_barsNow_295 : decode cX8_barsNow 295 = .ok (.invokevirtual 264, 3) := by decide +kernel
theorem dX8_barsNow_298 : decode cX8_barsNow 298 = .ok (.istore 8, 2) := by decide +kernel
theorem dX8_barsNow_300 : decode cX8_barsNow 300 = .ok (.aload_n 0, 1) := by decide +kernel
theorem dX8_barsNow_301 : decode cX8_barsNow 301 = .ok (.iload 6, 2) := by decide +kernel
theorem dX8_barsNow_303 : decode cX8_barsNow 303 = .ok (.bipush 60, 2) := by decide +kernel
theorem dX8_barsNow_305 : decode cX8_barsNow 305 = .ok (.if_icmp .ne 18, 3) := by decide +kernel
theorem dX8_barsNow_308 : decode cX8_barsNow 308 = .ok (.iload 8, 2) := by decide +kernel
theorem dX8_barsNow_310 : decode cX8_barsNow 310 = .ok (.iload 7, 2) := by decide +kernel
theorem dX8_barsNow_312 : decode cX8_barsNow 312 = .ok (.if_icmp .ge 7, 3) := by decide +kernel
theorem dX8_barsNow_315 : decode cX8_barsNow 315 = .ok (.iconst 1, 1) := by decide +kernel
theorem dX8_barsNow_316 : decode cX8_barsNow 316 = .ok (.goto 41, 3) := by decide +kernel
theorem dX8_barsNow_319 : decode cX8_barsNow 319 = .ok (.iconst 0, 1) := by decide +kernel
theorem dX8_barsNow_320 : decode cX8_barsNow 320 = .ok (.goto 37, 3) := by decide +kernel
theorem dX8_barsNow_323 : decode cX8_barsNow 323 = .ok (.iload 6, 2) := by decide +kernel
theorem dX8_barsNow_325 : decode cX8_barsNow 325 = .ok (.bipush 62, 2) := by decide +kernel
theorem dX8_barsNow_327 : decode cX8_barsNow 327 = .ok (.if_icmp .ne 18, 3) := by decide +kernel
theorem dX8_barsNow_330 : decode cX8_barsNow 330 = .ok (.iload 8, 2) := by decide +kernel
theorem dX8_barsNow_332 : decode cX8_barsNow 332 = .ok (.iload 7, 2) := by decide +kernel
theorem dX8_barsNow_334 : decode cX8_barsNow 334 = .ok (.if_icmp .le 7, 3) := by decide +kernel
theorem dX8_barsNow_337 : decode cX8_barsNow 337 = .ok (.iconst 1, 1) := by decide +kernel
theorem dX8_barsNow_338 : decode cX8_barsNow 338 = .ok (.goto 19, 3) := by decide +kernel
theorem dX8_barsNow_341 : decode cX8_barsNow 341 = .ok (.iconst 0, 1) := by decide +kernel
theorem dX8_barsNow_342 : decode cX8_barsNow 342 = .ok (.goto 15, 3) := by decide +kernel
theorem dX8_barsNow_345 : decode cX8_barsNow 345 = .ok (.iload 8, 2) := by decide +kernel
theorem dX8_barsNow_347 : decode cX8_barsNow 347 = .ok (.iload 7, 2) := by decide +kernel
theorem dX8_barsNow_349 : decode cX8_barsNow 349 = .ok (.if_icmp .ne 7, 3) := by decide +kernel
theorem dX8_barsNow_352 : decode cX8_barsNow 352 = .ok (.iconst 1, 1) := by decide +kernel
theorem dX8_barsNow_353 : decode cX8_barsNow 353 = .ok (.goto 4, 3) := by decide +kernel
theorem dX8_barsNow_356 : decode cX8_barsNow 356 = .ok (.iconst 0, 1) := by decide +kernel
theorem dX8_barsNow_357 : decode cX8_barsNow 357 = .ok (.invokevirtual 260, 3) := by decide +kernel
theorem dX8_barsNow_360 : decode cX8_barsNow 360 = .ok (.goto (-348), 3) := by decide +kernel
theorem dX8_barsNow_363 : decode cX8_barsNow 363 = .ok (.aload_n 0, 1) := by decide +kernel
theorem dX8_barsNow_364 : decode cX8_barsNow 364 = .ok (.getfield 82, 3) := by decide +kernel
theorem dX8_barsNow_367 : decode cX8_barsNow 367 = .ok (.iconst 0, 1) := by decide +kernel
theorem dX8_barsNow_368 : decode cX8_barsNow 368 = .ok (.baload, 1) := by decide +kernel
theorem dX8_barsNow_369 : decode cX8_barsNow 369 = .ok (.ifCond .ne 12, 3) := by decide +kernel
theorem dX8_barsNow_372 : decode cX8_barsNow 372 = .ok (.aload_n 0, 1) := by decide +kernel
theorem dX8_barsNow_373 : decode cX8_barsNow 373 = .ok (.getfield 85, 3) := by decide +kernel
theorem dX8_barsNow_376 : decode cX8_barsNow 376 = .ok (.iconst 0, 1) := by decide +kernel
theorem dX8_barsNow_377 : decode cX8_barsNow 377 = .ok (.baload, 1) := by decide +kernel
theorem dX8_barsNow_378 : decode cX8_barsNow 378 = .ok (.ifCond .eq 7, 3) := by decide +kernel
theorem dX8_barsNow_381 : decode cX8_barsNow 381 = .ok (.iconst 1, 1) := by decide +kernel
theorem dX8_barsNow_382 : decode cX8_barsNow 382 = .ok (.goto 4, 3) := by decide +kernel
theorem dX8_barsNow_385 : decode cX8_barsNow 385 = .ok (.iconst 0, 1) := by decide +kernel
theorem dX8_barsNow_386 : decode cX8_barsNow 386 = .ok (.ireturn, 1) := by decide +kernel
theorem dX8_bars_0 : decode cX8_bars 0 = .ok (.aload_n 0, 1) := by decide +kernel
theorem dX8_bars_1 : decode cX8_bars 1 = .ok (.iload_n 1, 1) := by decide +kernel
theorem dX8_bars_2 : decode cX8_bars 2 = .ok (.invokevirtual 268, 3) := by decide +kernel
theorem dX8_bars_5 : decode cX8_bars 5 = .ok (.ifCond .eq 12, 3) := by decide +kernel
theorem dX8_bars_8 : decode cX8_bars 8 = .ok (.aload_n 0, 1) := by decide +kernel
theorem dX8_bars_9 : decode cX8_bars 9 = .ok (.iload_n 2, 1) := by decide +kernel
theorem dX8_bars_10 : decode cX8_bars 10 = .ok (.iload_n 3, 1) := by decide +kernel
theorem dX8_bars_11 : decode cX8_bars 11 = .ok (.invokevirtual 200, 3) := by decide +kernel
theorem dX8_bars_14 : decode cX8_bars 14 = .ok (.ifCond .ne 8, 3) := by decide +kernel
theorem dX8_bars_17 : decode cX8_bars 17 = .ok (.bipush (-101), 2) := by decide +kernel
theorem dX8_bars_19 : decode cX8_bars 19 = .ok (.goto 18, 3) := by decide +kernel
theorem dX8_bars_22 : decode cX8_bars 22 = .ok (.aload_n 0, 1) := by decide +kernel
theorem dX8_bars_23 : decode cX8_bars 23 = .ok (.iload_n 1, 1) := by decide +kernel
theorem dX8_bars_24 : decode cX8_bars 24 = .ok (.iload_n 2, 1) := by decide +kernel
theorem dX8_bars_25 : decode cX8_bars 25 = .ok (.iload_n 3, 1) := by decide +kernel
theorem dX8_bars_26 : decode cX8_bars 26 = .ok (.invokevirtual 271, 3) := by decide +kernel
theorem dX8_bars_29 : decode cX8_bars 29 = .ok (.ifCond .eq 7, 3) := by decide +kernel
theorem dX8_bars_32 : decode cX8_bars 32 = .ok (.iconst 1, 1) := by decide +kernel
theorem dX8_bars_33 : decode cX8_bars 33 = .ok (.goto 4, 3) := by decide +kernel
theorem dX8_bars_36 : decode cX8_bars 36 = .ok (.iconst 0, 1) := by decide +kernel
theorem dX8_bars_37 : decode cX8_bars 37 = .ok (.ireturn, 1) := by decide +kernel
theorem dX8_wrong_0 : decode cX8_wrong 0 = .ok (.aload_n 0, 1) := by decide +kernel
theorem dX8_wrong_1 : decode cX8_wrong 1 = .ok (.iload_n 1, 1) := by decide +kernel
theorem dX8_wrong_2 : decode cX8_wrong 2 = .ok (.invokevirtual 268, 3) := by decide +kernel
theorem dX8_wrong_5 : decode cX8_wrong 5 = .ok (.ifCond .ne 6, 3) := by decide +kernel
theorem dX8_wrong_8 : decode cX8_wrong 8 = .ok (.bipush (-101), 2) := by decide +kernel
theorem dX8_wrong_10 : decode cX8_wrong 10 = .ok (.ireturn, 1) := by decide +kernel
theorem dX8_wrong_11 : decode cX8_wrong 11 = .ok (.iload_n 2, 1) := by decide +kernel
theorem dX8_wrong_12 : decode cX8_wrong 12 = .ok (.iconst 0, 1) := by decide +kernel
theorem dX8_wrong_13 : decode cX8_wrong 13 = .ok (.iconst 1, 1) := by decide +kernel
theorem dX8_wrong_14 : decode cX8_wrong 14 = .ok (.invokestatic 94, 3) := by decide +kernel
theorem dX8_wrong_17 : decode cX8_wrong 17 = .ok (.ifCond .ne 6, 3) := by decide +kernel
theorem dX8_wrong_20 : decode cX8_wrong 20 = .ok (.bipush (-102), 2) := by decide +kernel
theorem dX8_wrong_22 : decode cX8_wrong 22 = .ok (.ireturn, 1) := by decide +kernel
theorem dX8_wrong_23 : decode cX8_wrong 23 = .ok (.aload_n 0, 1) := by decide +kernel
theorem dX8_wrong_24 : decode cX8_wrong 24 = .ok (.getfield 274, 3) := by decide +kernel
theorem dX8_wrong_27 : decode cX8_wrong 27 = .ok (.bipush 6, 2) := by decide +kernel
theorem dX8_wrong_29 : decode cX8_wrong 29 = .ok (.if_icmp .ne 6, 3) := by decide +kernel
theorem dX8_wrong_32 : decode cX8_wrong 32 = .ok (.bipush (-103), 2) := by decide +kernel
theorem dX8_wrong_34 : decode cX8_wrong 34 = .ok (.ireturn, 1) := by decide +kernel
theorem dX8_wrong_35 : decode cX8_wrong 35 = .ok (.aload_n 0, 1) := by decide +kernel
theorem dX8_wrong_36 : decode cX8_wrong 36 = .ok (.dup, 1) := by decide +kernel
theorem dX8_wrong_37 : decode cX8_wrong 37 = .ok (.getfield 274, 3) := by decide +kernel
theorem dX8_wrong_40 : decode cX8_wrong 40 = .ok (.iconst 1, 1) := by decide +kernel
theorem dX8_wrong_41 : decode cX8_wrong 41 = .ok (.iadd, 1) := by decide +kernel
theorem dX8_wrong_42 : decode cX8_wrong 42 = .ok (.putfield 274, 3) := by decide +kernel
theorem dX8_wrong_45 : decode cX8_wrong 45 = .ok (.aload_n 0, 1) := by decide +kernel
theorem dX8_wrong_46 : decode cX8_wrong 46 = .ok (.invokevirtual 213, 3) := by decide +kernel
theorem dX8_wrong_49 : decode cX8_wrong 49 = .ok (.istore_n 3, 1) := by decide +kernel
theorem dX8_wrong_50 : decode cX8_wrong 50 = .ok (.iconst 0, 1) := by decide +kernel
theorem dX8_wrong_51 : decode cX8_wrong 51 = .ok (.istore 4, 2) := by decide +kernel
theorem dX8_wrong_53 : decode cX8_wrong 53 = .ok (.iconst 0, 1) := by decide +kernel
theorem dX8_wrong_54 : decode cX8_wrong 54 = .ok (.istore 5, 2) := by decide +kernel
theorem dX8_wrong_56 : decode cX8_wrong 56 = .ok (.iload 5, 2) := by decide +kernel
theorem dX8_wrong_58 : decode cX8_wrong 58 = .ok (.aload_n 0, 1) := by decide +kernel
theorem dX8_wrong_59 : decode cX8_wrong 59 = .ok (.getfield 91, 3) := by decide +kernel
theorem dX8_wrong_62 : decode cX8_wrong 62 = .ok (.if_icmp .ge 121, 3) := by decide +kernel
theorem dX8_wrong_65 : decode cX8_wrong 65 = .ok (.iload_n 3, 1) := by decide +kernel
theorem dX8_wrong_66 : decode cX8_wrong 66 = .ok (.ifCond .eq 117, 3) := by decide +kernel
theorem dX8_wrong_69 : decode cX8_wrong 69 = .ok (.iload 5, 2) := by decide +kernel
theorem dX8_wrong_71 : decode cX8_wrong 71 = .ok (.iconst 1, 1) := by decide +kernel
theorem dX8_wrong_72 : decode cX8_wrong 72 = .ok (.iadd, 1) := by decide +kernel
theorem dX8_wrong_73 : decode cX8_wrong 73 = .ok (.istore 6, 2) := by decide +kernel
theorem dX8_wrong_75 : decode cX8_wrong 75 = .ok (.iload 6, 2) := by decide +kernel
theorem dX8_wrong_77 : decode cX8_wrong 77 = .ok (.aload_n 0, 1) := by decide +kernel
theorem dX8_wrong_78 : decode cX8_wrong 78 = .ok (.getfield 91, 3) := by decide +kernel
theorem dX8_wrong_81 : decode cX8_wrong 81 = .ok (.if_icmp .ge 96, 3) := by decide +kernel
theorem dX8_wrong_84 : decode cX8_wrong 84 = .ok (.aload_n 0, 1) := by decide +kernel
theorem dX8_wrong_85 : decode cX8_wrong 85 = .ok (.iload 5, 2) := by decide +kernel
theorem dX8_wrong_87 : decode cX8_wrong 87 = .ok (.iload 6, 2) := by decide +kernel
theorem dX8_wrong_89 : decode cX8_wrong 89 = .ok (.invokevirtual 203, 3) := by decide +kernel
theorem dX8_wrong_92 : decode cX8_wrong 92 = .ok (.ifCond .eq 79, 3) := by decide +kernel
theorem dX8_wrong_95 : decode cX8_wrong 95 = .ok (.aload_n 0, 1) := by decide +kernel
theorem dX8_wrong_96 : decode cX8_wrong 96 = .ok (.iload 5, 2) := by decide +kernel
theorem dX8_wrong_98 : decode cX8_wrong 98 = .ok (.iload 6, 2) := by decide +kernel
theorem dX8_wrong_100 : decode cX8_wrong 100 = .ok (.iconst (-1), 1) := by decide +kernel
theorem dX8_wrong_101 : decode cX8_wrong 101 = .ok (.iconst (-1), 1) := by decide +kernel
theorem dX8_wrong_102 : decode cX8_wrong 102 = .ok (.iconst 0, 1) := by decide +kernel
theorem dX8_wrong_103 : decode cX8_wrong 103 = .ok (.iconst (-1), 1) := by decide +kernel
theorem dX8_wrong_104 : decode cX8_wrong 104 = .ok (.invokevirtual 217, 3) := by decide +kernel
theorem dX8_wrong_107 : decode cX8_wrong 107 = .ok (.ifCond .eq 64, 3) := by decide +kernel
theorem dX8_wrong_110 : decode cX8_wrong 110 = .ok (.aload_n 0, 1) := by decide +kernel
theorem dX8_wrong_111 : decode cX8_wrong 111 = .ok (.iconst 0, 1) := by decide +kernel
theorem dX8_wrong_112 : decode cX8_wrong 112 = .ok (.invokevirtual 221, 3) := by decide +kernel
theorem dX8_wrong_115 : decode cX8_wrong 115 = .ok (.ifCond .le 7, 3) := by decide +kernel
theorem dX8_wrong_118 : decode cX8_wrong 118 = .ok (.iconst 1, 1) := by decide +kernel
theorem dX8_wrong_119 : decode cX8_wrong 119 = .ok (.goto 4, 3) := by decide +kernel
theorem dX8_wrong_122 : decode cX8_wrong 122 = .ok (.iconst 0, 1) := by decide +kernel
theorem dX8_wrong_123 : decode cX8_wrong 123 = .ok (.istore 7, 2) := by decide +kernel
theorem dX8_wrong_125 : decode cX8_wrong 125 = .ok (.iload 4, 2) := by decide +kernel
theorem dX8_wrong_127 : decode cX8_wrong 127 = .ok (.iload 7, 2) := by decide +kernel
theorem dX8_wrong_129 : decode cX8_wrong 129 = .ok (.iload_n 2, 1) := by decide +kernel
theorem dX8_wrong_130 : decode cX8_wrong 130 = .ok (.ifCond .ne 7, 3) := by decide +kernel
theorem dX8_wrong_133 : decode cX8_wrong 133 = .ok (.iconst 1, 1) := by decide +kernel
theorem dX8_wrong_134 : decode cX8_wrong 134 = .ok (.goto 4, 3) := by decide +kernel
theorem dX8_wrong_137 : decode cX8_wrong 137 = .ok (.iconst 0, 1) := by decide +kernel
theorem dX8_wrong_138 : decode cX8_wrong 138 = .ok (.if_icmp .ne 29, 3) := by decide +kernel
theorem dX8_wrong_141 : decode cX8_wrong 141 = .ok (.aload_n 0, 1) := by decide +kernel
theorem dX8_wrong_142 : decode cX8_wrong 142 = .ok (.iload_n 1, 1) := by decide +kernel
theorem dX8_wrong_143 : decode cX8_wrong 143 = .ok (.iload 5, 2) := by decide +kernel
theorem dX8_wrong_145 : decode cX8_wrong 145 = .ok (.iload 6, 2) := by decide +kernel
theorem dX8_wrong_147 : decode cX8_wrong 147 = .ok (.invokevirtual 271, 3) := by decide +kernel
theorem dX8_wrong_150 : decode cX8_wrong 150 = .ok (.iload_n 2, 1) := by decide +kernel
theorem dX8_wrong_151 : decode cX8_wrong 151 = .ok (.iconst 1, 1) := by decide +kernel
theorem dX8_wrong_152 : decode cX8_wrong 152 = .ok (.if_icmp .ne 7, 3) := by decide +kernel
theorem dX8_wrong_155 : decode cX8_wrong 155 = .ok (.iconst 1, 1) := by decide +kernel
theorem dX8_wrong_156 : decode cX8_wrong 156 = .ok (.goto 4, 3) := by decide +kernel
theorem dX8_wrong_159 : decode cX8_wrong 159 = .ok (.iconst 0, 1) := by decide +kernel
theorem dX8_wrong_160 : decode cX8_wrong 160 = .ok (.if_icmp .ne 7, 3) := by decide +kernel
theorem dX8_wrong_163 : decode cX8_wrong 163 = .ok (.iconst 1, 1) := by decide +kernel
theorem dX8_wrong_164 : decode cX8_wrong 164 = .ok (.goto 4, 3) := by decide +kernel
theorem dX8_wrong_167 : decode cX8_wrong 167 = .ok (.iconst 0, 1) := by decide +kernel
theorem dX8_wrong_168 : decode cX8_wrong 168 = .ok (.iadd, 1) := by decide +kernel
theorem dX8_wrong_169 : decode cX8_wrong 169 = .ok (.istore 4, 2) := by decide +kernel
theorem dX8_wrong_171 : decode cX8_wrong 171 = .ok (.iinc 6 1, 3) := by decide +kernel
theorem dX8_wrong_174 : decode cX8_wrong 174 = .ok (.goto (-99), 3) := by decide +kernel
theorem dX8_wrong_177 : decode cX8_wrong 177 = .ok (.iinc 5 1, 3) := by decide +kernel
theorem dX8_wrong_180 : decode cX8_wrong 180 = .ok (.goto (-124), 3) := by decide +kernel
theorem dX8_wrong_183 : decode cX8_wrong 183 = .ok (.iload 4, 2) := by decide +kernel
theorem dX8_wrong_185 : decode cX8_wrong 185 = .ok (.ireturn, 1) := by decide +kernel
theorem dX8_image_0 : decode cX8_image 0 = .ok (.aload_n 0, 1) := by decide +kernel
theorem dX8_image_1 : decode cX8_image 1 = .ok (.iconst 1, 1) := by decide +kernel
theorem dX8_image_2 : decode cX8_image 2 = .ok (.putfield 277, 3) := by decide +kernel
theorem dX8_image_5 : decode cX8_image 5 = .ok (.aload_n 0, 1) := by decide +kernel
theorem dX8_image_6 : decode cX8_image 6 = .ok (.aload_n 0, 1) := by decide +kernel
theorem dX8_image_7 : decode cX8_image 7 = .ok (.getfield 91, 3) := by decide +kernel
theorem dX8_image_10 : decode cX8_image 10 = .ok (.putfield 280, 3) := by decide +kernel
theorem dX8_image_13 : decode cX8_image 13 = .ok (.aload_n 0, 1) := by decide +kernel
theorem dX8_image_14 : decode cX8_image 14 = .ok (.aload_n 0, 1) := by decide +kernel
theorem dX8_image_15 : decode cX8_image 15 = .ok (.getfield 98, 3) := by decide +kernel
theorem dX8_image_18 : decode cX8_image 18 = .ok (.putfield 283, 3) := by decide +kernel
theorem dX8_image_21 : decode cX8_image 21 = .ok (.iconst 0, 1) := by decide +kernel
theorem dX8_image_22 : decode cX8_image 22 = .ok (.istore_n 1, 1) := by decide +kernel
theorem dX8_image_23 : decode cX8_image 23 = .ok (.iload_n 1, 1) := by decide +kernel
theorem dX8_image_24 : decode cX8_image 24 = .ok (.bipush 6, 2) := by decide +kernel
theorem dX8_image_26 : decode cX8_image 26 = .ok (.if_icmp .ge 45, 3) := by decide +kernel
theorem dX8_image_29 : decode cX8_image 29 = .ok (.aload_n 0, 1) := by decide +kernel
theorem dX8_image_30 : decode cX8_image 30 = .ok (.getfield 45, 3) := by decide +kernel
theorem dX8_image_33 : decode cX8_image 33 = .ok (.iload_n 1, 1) := by decide +kernel
theorem dX8_image_34 : decode cX8_image 34 = .ok (.aload_n 0, 1) := by decide +kernel
theorem dX8_image_35 : decode cX8_image 35 = .ok (.getfield 29, 3) := by decide +kernel
theorem dX8_image_38 : decode cX8_image 38 = .ok (.iload_n 1, 1) := by decide +kernel
theorem dX8_image_39 : decode cX8_image 39 = .ok (.iaload, 1) := by decide +kernel
theorem dX8_image_40 : decode cX8_image 40 = .ok (.iastore, 1) := by decide +kernel
theorem dX8_image_41 : decode cX8_image 41 = .ok (.aload_n 0, 1) := by decide +kernel
theorem dX8_image_42 : decode cX8_image 42 = .ok (.getfield 48, 3) := by decide +kernel
theorem dX8_image_45 : decode cX8_image 45 = .ok (.iload_n 1, 1) := by decide +kernel
theorem dX8_image_46 : decode cX8_image 46 = .ok (.aload_n 0, 1) := by decide +kernel
theorem dX8_image_47 : decode cX8_image 47 = .ok (.getfield 20, 3) := by decide +kernel
theorem dX8_image_50 : decode cX8_image 50 = .ok (.iload_n 1, 1) := by decide +kernel
theorem dX8_image_51 : decode cX8_image 51 = .ok (.iaload, 1) := by decide +kernel
theorem dX8_image_52 : decode cX8_image 52 = .ok (.iastore, 1) := by decide +kernel
theorem dX8_image_53 : decode cX8_image 53 = .ok (.aload_n 0, 1) := by decide +kernel
theorem dX8_image_54 : decode cX8_image 54 = .ok (.getfield 51, 3) := by decide +kernel
theorem dX8_image_57 : decode cX8_image 57 = .ok (.iload_n 1, 1) := by decide +kernel
theorem dX8_image_58 : decode cX8_image 58 = .ok (.aload_n 0, 1) := by decide +kernel
theorem dX8_image_59 : decode cX8_image 59 = .ok (.getfield 16, 3) := by decide +kernel
theorem dX8_image_62 : decode cX8_image 62 = .ok (.iload_n 1, 1) := by decide +kernel
theorem dX8_image_63 : decode cX8_image 63 = .ok (.baload, 1) := by decide +kernel
theorem dX8_image_64 : decode cX8_image 64 = .ok (.bastore, 1) := by decide +kernel
theorem dX8_image_65 : decode cX8_image 65 = .ok (.iinc 1 1, 3) := by decide +kernel
theorem dX8_image_68 : decode cX8_image 68 = .ok (.goto (-45), 3) := by decide +kernel
theorem dX8_image_71 : decode cX8_image 71 = .ok (.aload_n 0, 1) := by decide +kernel
theorem dX8_image_72 : decode cX8_image 72 = .ok (.getfield 98, 3) := by decide +kernel
theorem dX8_image_75 : decode cX8_image 75 = .ok (.ireturn, 1) := by decide +kernel
theorem dX8_restore_0 : decode cX8_restore 0 = .ok (.aload_n 0, 1) := by decide +kernel
theorem dX8_restore_1 : decode cX8_restore 1 = .ok (.getfield 277, 3) := by decide +kernel
theorem dX8_restore_4 : decode cX8_restore 4 = .ok (.ifCond .eq 14, 3) := by decide +kernel
theorem dX8_restore_7 : decode cX8_restore 7 = .ok (.aload_n 0, 1) := by decide +kernel
theorem dX8_restore_8 : decode cX8_restore 8 = .ok (.getfield 283, 3) := by decide +kernel
theorem dX8_restore_11 : decode cX8_restore 11 = .ok (.aload_n 0, 1) := by decide +kernel
theorem dX8_restore_12 : decode cX8_restore 12 = .ok (.getfield 98, 3) := by decide +kernel
theorem dX8_restore_15 : decode cX8_restore 15 = .ok (.if_icmp .eq 6, 3) := by decide +kernel
theorem dX8_restore_18 : decode cX8_restore 18 = .ok (.bipush (-103), 2) := by decide +kernel
theorem dX8_restore_20 : decode cX8_restore 20 = .ok (.ireturn, 1) := by decide +kernel
theorem dX8_restore_21 : decode cX8_restore 21 = .ok (.iconst 0, 1) := by decide +kernel
theorem dX8_restore_22 : decode cX8_restore 22 = .ok (.istore_n 1, 1) := by decide +kernel
theorem dX8_restore_23 : decode cX8_restore 23 = .ok (.iload_n 1, 1) := by decide +kernel
theorem dX8_restore_24 : decode cX8_restore 24 = .ok (.aload_n 0, 1) := by decide +kernel
theorem dX8_restore_25 : decode cX8_restore 25 = .ok (.getfield 98, 3) := by decide +kernel
theorem dX8_restore_28 : decode cX8_restore 28 = .ok (.if_icmp .ge 33, 3) := by decide +kernel
theorem dX8_restore_31 : decode cX8_restore 31 = .ok (.aload_n 0, 1) := by decide +kernel
theorem dX8_restore_32 : decode cX8_restore 32 = .ok (.getfield 29, 3) := by decide +kernel
theorem dX8_restore_35 : decode cX8_restore 35 = .ok (.iload_n 1, 1) := by decide +kernel
theorem dX8_restore_36 : decode cX8_restore 36 = .ok (.aload_n 0, 1) := by decide +kernel
theorem dX8_restore_37 : decode cX8_restore 37 = .ok (.getfield 45, 3) := by decide +kernel
theorem dX8_restore_40 : decode cX8_restore 40 = .ok (.iload_n 1, 1) := by decide +kernel
theorem dX8_restore_41 : decode cX8_restore 41 = .ok (.iaload, 1) := by decide +kernel
theorem dX8_restore_42 : decode cX8_restore 42 = .ok (.iastore, 1) := by decide +kernel
theorem dX8_restore_43 : decode cX8_restore 43 = .ok (.aload_n 0, 1) := by decide +kernel
theorem dX8_restore_44 : decode cX8_restore 44 = .ok (.getfield 20, 3) := by decide +kernel
theorem dX8_restore_47 : decode cX8_restore 47 = .ok (.iload_n 1, 1) := by decide +kernel
theorem dX8_restore_48 : decode cX8_restore 48 = .ok (.aload_n 0, 1) := by decide +kernel
theorem dX8_restore_49 : decode cX8_restore 49 = .ok (.getfield 48, 3) := by decide +kernel
theorem dX8_restore_52 : decode cX8_restore 52 = .ok (.iload_n 1, 1) := by decide +kernel
theorem dX8_restore_53 : decode cX8_restore 53 = .ok (.iaload, 1) := by decide +kernel
theorem dX8_restore_54 : decode cX8_restore 54 = .ok (.iastore, 1) := by decide +kernel
theorem dX8_restore_55 : decode cX8_restore 55 = .ok (.iinc 1 1, 3) := by decide +kernel
theorem dX8_restore_58 : decode cX8_restore 58 = .ok (.goto (-35), 3) := by decide +kernel
theorem dX8_restore_61 : decode cX8_restore 61 = .ok (.iconst 0, 1) := by decide +kernel
theorem dX8_restore_62 : decode cX8_restore 62 = .ok (.istore_n 1, 1) := by decide +kernel
theorem dX8_restore_63 : decode cX8_restore 63 = .ok (.iload_n 1, 1) := by decide +kernel
theorem dX8_restore_64 : decode cX8_restore 64 = .ok (.aload_n 0, 1) := by decide +kernel
theorem dX8_restore_65 : decode cX8_restore 65 = .ok (.getfield 280, 3) := by decide +kernel
theorem dX8_restore_68 : decode cX8_restore 68 = .ok (.if_icmp .ge 21, 3) := by decide +kernel
theorem dX8_restore_71 : decode cX8_restore 71 = .ok (.aload_n 0, 1) := by decide +kernel
theorem dX8_restore_72 : decode cX8_restore 72 = .ok (.getfield 16, 3) := by decide +kernel
theorem dX8_restore_75 : decode cX8_restore 75 = .ok (.iload_n 1, 1) := by decide +kernel
theorem dX8_restore_76 : decode cX8_restore 76 = .ok (.aload_n 0, 1) := by decide +kernel
theorem dX8_restore_77 : decode cX8_restore 77 = .ok (.getfield 51, 3) := by decide +kernel
theorem dX8_restore_80 : decode cX8_restore 80 = .ok (.iload_n 1, 1) := by decide +kernel
theorem dX8_restore_81 : decode cX8_restore 81 = .ok (.baload, 1) := by decide +kernel
theorem dX8_restore_82 : decode cX8_restore 82 = .ok (.bastore, 1) := by decide +kernel
theorem dX8_restore_83 : decode cX8_restore 83 = .ok (.iinc 1 1, 3) := by decide +kernel
theorem dX8_restore_86 : decode cX8_restore 86 = .ok (.goto (-23), 3) := by decide +kernel
theorem dX8_restore_89 : decode cX8_restore 89 = .ok (.aload_n 0, 1) := by decide +kernel
theorem dX8_restore_90 : decode cX8_restore 90 = .ok (.getfield 98, 3) := by decide +kernel
theorem dX8_restore_93 : decode cX8_restore 93 = .ok (.ireturn, 1) := by decide +kernel
theorem dX8_howMany_0 : decode cX8_howMany 0 = .ok (.iload_n 1, 1) := by decide +kernel
theorem dX8_howMany_1 : decode cX8_howMany 1 = .ok (.tableswitch 78 0 6 #[43, 48, 53, 58, 63, 68, 73], 43) := by decide +kernel
theorem dX8_howMany_44 : decode cX8_howMany 44 = .ok (.aload_n 0, 1) := by decide +kernel
theorem dX8_howMany_45 : decode cX8_howMany 45 = .ok (.getfield 91, 3) := by decide +kernel
theorem dX8_howMany_48 : decode cX8_howMany 48 = .ok (.ireturn, 1) := by decide +kernel
theorem dX8_howMany_49 : decode cX8_howMany 49 = .ok (.aload_n 0, 1) := by decide +kernel
theorem dX8_howMany_50 : decode cX8_howMany 50 = .ok (.getfield 98, 3) := by decide +kernel
theorem dX8_howMany_53 : decode cX8_howMany 53 = .ok (.ireturn, 1) := by decide +kernel
theorem dX8_howMany_54 : decode cX8_howMany 54 = .ok (.aload_n 0, 1) := by decide +kernel
theorem dX8_howMany_55 : decode cX8_howMany 55 = .ok (.getfield 101, 3) := by decide +kernel
theorem dX8_howMany_58 : decode cX8_howMany 58 = .ok (.ireturn, 1) := by decide +kernel
theorem dX8_howMany_59 : decode cX8_howMany 59 = .ok (.aload_n 0, 1) := by decide +kernel
theorem dX8_howMany_60 : decode cX8_howMany 60 = .ok (.getfield 248, 3) := by decide +kernel
theorem dX8_howMany_63 : decode cX8_howMany 63 = .ok (.ireturn, 1) := by decide +kernel
theorem dX8_howMany_64 : decode cX8_howMany 64 = .ok (.aload_n 0, 1) := by decide +kernel
theorem dX8_howMany_65 : decode cX8_howMany 65 = .ok (.getfield 230, 3) := by decide +kernel
theorem dX8_howMany_68 : decode cX8_howMany 68 = .ok (.ireturn, 1) := by decide +kernel
theorem dX8_howMany_69 : decode cX8_howMany 69 = .ok (.aload_n 0, 1) := by decide +kernel
theorem dX8_howMany_70 : decode cX8_howMany 70 = .ok (.invokevirtual 128, 3) := by decide +kernel
theorem dX8_howMany_73 : decode cX8_howMany 73 = .ok (.ireturn, 1) := by decide +kernel
theorem dX8_howMany_74 : decode cX8_howMany 74 = .ok (.aload_n 0, 1) := by decide +kernel
theorem dX8_howMany_75 : decode cX8_howMany 75 = .ok (.getfield 274, 3) := by decide +kernel
theorem dX8_howMany_78 : decode cX8_howMany 78 = .ok (.ireturn, 1) := by decide +kernel
theorem dX8_howMany_79 : decode cX8_howMany 79 = .ok (.bipush (-102), 2) := by decide +kernel
theorem dX8_howMany_81 : decode cX8_howMany 81 = .ok (.ireturn, 1) := by decide +kernel
theorem dX8_count_0 : decode cX8_count 0 = .ok (.aload_n 0, 1) := by decide +kernel
theorem dX8_count_1 : decode cX8_count 1 = .ok (.iload_n 1, 1) := by decide +kernel
theorem dX8_count_2 : decode cX8_count 2 = .ok (.invokevirtual 286, 3) := by decide +kernel
theorem dX8_count_5 : decode cX8_count 5 = .ok (.ireturn, 1) := by decide +kernel
theorem dX8_mix_0 : decode cX8_mix 0 = .ok (.aload_n 0, 1) := by decide +kernel
theorem dX8_mix_1 : decode cX8_mix 1 = .ok (.ldc2_w 289, 3) := by decide +kernel
theorem dX8_mix_4 : decode cX8_mix 4 = .ok (.aload_n 0, 1) := by decide +kernel
theorem dX8_mix_5 : decode cX8_mix 5 = .ok (.getfield 291, 3) := by decide +kernel
theorem dX8_mix_8 : decode cX8_mix 8 = .ok (.lmul, 1) := by decide +kernel
theorem dX8_mix_9 : decode cX8_mix 9 = .ok (.lload_n 1, 1) := by decide +kernel
theorem dX8_mix_10 : decode cX8_mix 10 = .ok (.ladd, 1) := by decide +kernel
theorem dX8_mix_11 : decode cX8_mix 11 = .ok (.putfield 291, 3) := by decide +kernel
theorem dX8_mix_14 : decode cX8_mix 14 = .ok (.return_, 1) := by decide +kernel
theorem dX8_digest_0 : decode cX8_digest 0 = .ok (.aload_n 0, 1) := by decide +kernel
theorem dX8_digest_1 : decode cX8_digest 1 = .ok (.ldc2_w 295, 3) := by decide +kernel
theorem dX8_digest_4 : decode cX8_digest 4 = .ok (.putfield 291, 3) := by decide +kernel
theorem dX8_digest_7 : decode cX8_digest 7 = .ok (.iconst 0, 1) := by decide +kernel
theorem dX8_digest_8 : decode cX8_digest 8 = .ok (.istore_n 1, 1) := by decide +kernel
theorem dX8_digest_9 : decode cX8_digest 9 = .ok (.iload_n 1, 1) := by decide +kernel
theorem dX8_digest_10 : decode cX8_digest 10 = .ok (.aload_n 0, 1) := by decide +kernel
theorem dX8_digest_11 : decode cX8_digest 11 = .ok (.getfield 91, 3) := by decide +kernel
theorem dX8_digest_14 : decode cX8_digest 14 = .ok (.if_icmp .ge 41, 3) := by decide +kernel
theorem dX8_digest_17 : decode cX8_digest 17 = .ok (.aload_n 0, 1) := by decide +kernel
theorem dX8_digest_18 : decode cX8_digest 18 = .ok (.aload_n 0, 1) := by decide +kernel
theorem dX8_digest_19 : decode cX8_digest 19 = .ok (.getfield 7, 3) := by decide +kernel
theorem dX8_digest_22 : decode cX8_digest 22 = .ok (.iload_n 1, 1) := by decide +kernel
theorem dX8_digest_23 : decode cX8_digest 23 = .ok (.iaload, 1) := by decide +kernel
theorem dX8_digest_24 : decode cX8_digest 24 = .ok (.i2l, 1) := by decide +kernel
theorem dX8_digest_25 : decode cX8_digest 25 = .ok (.invokevirtual 297, 3) := by decide +kernel
theorem dX8_digest_28 : decode cX8_digest 28 = .ok (.aload_n 0, 1) := by decide +kernel
theorem dX8_digest_29 : decode cX8_digest 29 = .ok (.aload_n 0, 1) := by decide +kernel
theorem dX8_digest_30 : decode cX8_digest 30 = .ok (.getfield 13, 3) := by decide +kernel
theorem dX8_digest_33 : decode cX8_digest 33 = .ok (.iload_n 1, 1) := by decide +kernel
theorem dX8_digest_34 : decode cX8_digest 34 = .ok (.iaload, 1) := by decide +kernel
theorem dX8_digest_35 : decode cX8_digest 35 = .ok (.i2l, 1) := by decide +kernel
theorem dX8_digest_36 : decode cX8_digest 36 = .ok (.invokevirtual 297, 3) := by decide +kernel
theorem dX8_digest_39 : decode cX8_digest 39 = .ok (.aload_n 0, 1) := by decide +kernel
theorem dX8_digest_40 : decode cX8_digest 40 = .ok (.aload_n 0, 1) := by decide +kernel
theorem dX8_digest_41 : decode cX8_digest 41 = .ok (.iload_n 1, 1) := by decide +kernel
theorem dX8_digest_42 : decode cX8_digest 42 = .ok (.invokevirtual 144, 3) := by decide +kernel
theorem dX8_digest_45 : decode cX8_digest 45 = .ok (.i2l, 1) := by decide +kernel
theorem dX8_digest_46 : decode cX8_digest 46 = .ok (.invokevirtual 297, 3) := by decide +kernel
theorem dX8_digest_49 : decode cX8_digest 49 = .ok (.iinc 1 1, 3) := by decide +kernel
theorem dX8_digest_52 : decode cX8_digest 52 = .ok (.goto (-43), 3) := by decide +kernel
theorem dX8_digest_55 : decode cX8_digest 55 = .ok (.iconst 0, 1) := by decide +kernel
theorem dX8_digest_56 : decode cX8_digest 56 = .ok (.istore_n 1, 1) := by decide +kernel
theorem dX8_digest_57 : decode cX8_digest 57 = .ok (.iload_n 1, 1) := by decide +kernel
theorem dX8_digest_58 : decode cX8_digest 58 = .ok (.aload_n 0, 1) := by decide +kernel
theorem dX8_digest_59 : decode cX8_digest 59 = .ok (.getfield 98, 3) := by decide +kernel
theorem dX8_digest_62 : decode cX8_digest 62 = .ok (.if_icmp .ge 34, 3) := by decide +kernel
theorem dX8_digest_65 : decode cX8_digest 65 = .ok (.iconst 0, 1) := by decide +kernel
theorem dX8_digest_66 : decode cX8_digest 66 = .ok (.istore_n 2, 1) := by decide +kernel
theorem dX8_digest_67 : decode cX8_digest 67 = .ok (.iload_n 2, 1) := by decide +kernel
theorem dX8_digest_68 : decode cX8_digest 68 = .ok (.bipush 6, 2) := by decide +kernel
theorem dX8_digest_70 : decode cX8_digest 70 = .ok (.if_icmp .ge 20, 3) := by decide +kernel
theorem dX8_digest_73 : decode cX8_digest 73 = .ok (.aload_n 0, 1) := by decide +kernel
theorem dX8_digest_74 : decode cX8_digest 74 = .ok (.aload_n 0, 1) := by decide +kernel
theorem dX8_digest_75 : decode cX8_digest 75 = .ok (.iload_n 1, 1) := by decide +kernel
theorem dX8_digest_76 : decode cX8_digest 76 = .ok (.iload_n 2, 1) := by decide +kernel
theorem dX8_digest_77 : decode cX8_digest 77 = .ok (.invokevirtual 135, 3) := by decide +kernel
theorem dX8_digest_80 : decode cX8_digest 80 = .ok (.i2l, 1) := by decide +kernel
theorem dX8_digest_81 : decode cX8_digest 81 = .ok (.invokevirtual 297, 3) := by decide +kernel
theorem dX8_digest_84 : decode cX8_digest 84 = .ok (.iinc 2 1, 3) := by decide +kernel
theorem dX8_digest_87 : decode cX8_digest 87 = .ok (.goto (-20), 3) := by decide +kernel
theorem dX8_digest_90 : decode cX8_digest 90 = .ok (.iinc 1 1, 3) := by decide +kernel
theorem dX8_digest_93 : decode cX8_digest 93 = .ok (.goto (-36), 3) := by decide +kernel
theorem dX8_digest_96 : decode cX8_digest 96 = .ok (.iconst 0, 1) := by decide +kernel
theorem dX8_digest_97 : decode cX8_digest 97 = .ok (.istore_n 1, 1) := by decide +kernel
theorem dX8_digest_98 : decode cX8_digest 98 = .ok (.iload_n 1, 1) := by decide +kernel
theorem dX8_digest_99 : decode cX8_digest 99 = .ok (.aload_n 0, 1) := by decide +kernel
theorem dX8_digest_100 : decode cX8_digest 100 = .ok (.getfield 101, 3) := by decide +kernel
theorem dX8_digest_103 : decode cX8_digest 103 = .ok (.if_icmp .ge 54, 3) := by decide +kernel
theorem dX8_digest_106 : decode cX8_digest 106 = .ok (.iconst 0, 1) := by decide +kernel
theorem dX8_digest_107 : decode cX8_digest 107 = .ok (.istore_n 2, 1) := by decide +kernel
theorem dX8_digest_108 : decode cX8_digest 108 = .ok (.iload_n 2, 1) := by decide +kernel
theorem dX8_digest_109 : decode cX8_digest 109 = .ok (.bipush 6, 2) := by decide +kernel
theorem dX8_digest_111 : decode cX8_digest 111 = .ok (.if_icmp .ge 20, 3) := by decide +kernel
theorem dX8_digest_114 : decode cX8_digest 114 = .ok (.aload_n 0, 1) := by decide +kernel
theorem dX8_digest_115 : decode cX8_digest 115 = .ok (.aload_n 0, 1) := by decide +kernel
theorem dX8_digest_116 : decode cX8_digest 116 = .ok (.iload_n 1, 1) := by decide +kernel
theorem dX8_digest_117 : decode cX8_digest 117 = .ok (.iload_n 2, 1) := by decide +kernel
theorem dX8_digest_118 : decode cX8_digest 118 = .ok (.invokevirtual 112, 3) := by decide +kernel
theorem dX8_digest_121 : decode cX8_digest 121 = .ok (.i2l, 1) := by decide +kernel
theorem dX8_digest_122 : decode cX8_digest 122 = .ok (.invokevirtual 297, 3) := by decide +kernel
theorem dX8_digest_125 : decode cX8_digest 125 = .ok (.iinc 2 1, 3) := by decide +kernel
theorem dX8_digest_128 : decode cX8_digest 128 = .ok (.goto (-20), 3) := by decide +kernel
theorem dX8_digest_131 : decode cX8_digest 131 = .ok (.aload_n 0, 1) := by decide +kernel
theorem dX8_digest_132 : decode cX8_digest 132 = .ok (.aload_n 0, 1) := by decide +kernel
theorem dX8_digest_133 : decode cX8_digest 133 = .ok (.iload_n 1, 1) := by decide +kernel
theorem dX8_digest_134 : decode cX8_digest 134 = .ok (.invokevirtual 125, 3) := by decide +kernel
theorem dX8_digest_137 : decode cX8_digest 137 = .ok (.i2l, 1) := by decide +kernel
theorem dX8_digest_138 : decode cX8_digest 138 = .ok (.invokevirtual 297, 3) := by decide +kernel
theorem dX8_digest_141 : decode cX8_digest 141 = .ok (.aload_n 0, 1) := by decide +kernel
theorem dX8_digest_142 : decode cX8_digest 142 = .ok (.aload_n 0, 1) := by decide +kernel
theorem dX8_digest_143 : decode cX8_digest 143 = .ok (.iload_n 1, 1) := by decide +kernel
theorem dX8_digest_144 : decode cX8_digest 144 = .ok (.invokevirtual 141, 3) := by decide +kernel
theorem dX8_digest_147 : decode cX8_digest 147 = .ok (.i2l, 1) := by decide +kernel
theorem dX8_digest_148 : decode cX8_digest 148 = .ok (.invokevirtual 297, 3) := by decide +kernel
theorem dX8_digest_151 : decode cX8_digest 151 = .ok (.iinc 1 1, 3) := by decide +kernel
theorem dX8_digest_154 : decode cX8_digest 154 = .ok (.goto (-56), 3) := by decide +kernel
theorem dX8_digest_157 : decode cX8_digest 157 = .ok (.iconst 0, 1) := by decide +kernel
theorem dX8_digest_158 : decode cX8_digest 158 = .ok (.istore_n 1, 1) := by decide +kernel
theorem dX8_digest_159 : decode cX8_digest 159 = .ok (.iload_n 1, 1) := by decide +kernel
theorem dX8_digest_160 : decode cX8_digest 160 = .ok (.aload_n 0, 1) := by decide +kernel
theorem dX8_digest_161 : decode cX8_digest 161 = .ok (.getfield 248, 3) := by decide +kernel
theorem dX8_digest_164 : decode cX8_digest 164 = .ok (.if_icmp .ge 62, 3) := by decide +kernel
theorem dX8_digest_167 : decode cX8_digest 167 = .ok (.iconst 0, 1) := by decide +kernel
theorem dX8_digest_168 : decode cX8_digest 168 = .ok (.istore_n 2, 1) := by decide +kernel
theorem dX8_digest_169 : decode cX8_digest 169 = .ok (.iload_n 2, 1) := by decide +kernel
theorem dX8_digest_170 : decode cX8_digest 170 = .ok (.aload_n 0, 1) := by decide +kernel
theorem dX8_digest_171 : decode cX8_digest 171 = .ok (.getfield 91, 3) := by decide +kernel
theorem dX8_digest_174 : decode cX8_digest 174 = .ok (.if_icmp .ge 46, 3) := by decide +kernel
theorem dX8_digest_177 : decode cX8_digest 177 = .ok (.iload_n 2, 1) := by decide +kernel
theorem dX8_digest_178 : decode cX8_digest 178 = .ok (.iconst 1, 1) := by decide +kernel
theorem dX8_digest_179 : decode cX8_digest 179 = .ok (.iadd, 1) := by decide +kernel
theorem dX8_digest_180 : decode cX8_digest 180 = .ok (.istore_n 3, 1) := by decide +kernel
theorem dX8_digest_181 : decode cX8_digest 181 = .ok (.iload_n 3, 1) := by decide +kernel
theorem dX8_digest_182 : decode cX8_digest 182 = .ok (.aload_n 0, 1) := by decide +kernel
theorem dX8_digest_183 : decode cX8_digest 183 = .ok (.getfield 91, 3) := by decide +kernel
theorem dX8_digest_186 : decode cX8_digest 186 = .ok (.if_icmp .ge 28, 3) := by decide +kernel
theorem dX8_digest_189 : decode cX8_digest 189 = .ok (.aload_n 0, 1) := by decide +kernel
theorem dX8_digest_190 : decode cX8_digest 190 = .ok (.aload_n 0, 1) := by decide +kernel
theorem dX8_digest_191 : decode cX8_digest 191 = .ok (.iload_n 1, 1) := by decide +kernel
theorem dX8_digest_192 : decode cX8_digest 192 = .ok (.iload_n 2, 1) := by decide +kernel
theorem dX8_digest_193 : decode cX8_digest 193 = .ok (.iload_n 3, 1) := by decide +kernel
theorem dX8_digest_194 : decode cX8_digest 194 = .ok (.invokevirtual 271, 3) := by decide +kernel
theorem dX8_digest_197 : decode cX8_digest 197 = .ok (.ifCond .eq 7, 3) := by decide +kernel
theorem dX8_digest_200 : decode cX8_digest 200 = .ok (.lconst 1, 1) := by decide +kernel
theorem dX8_digest_201 : decode cX8_digest 201 = .ok (.goto 4, 3) := by decide +kernel
theorem dX8_digest_204 : decode cX8_digest 204 = .ok (.lconst 0, 1) := by decide +kernel
theorem dX8_digest_205 : decode cX8_digest 205 = .ok (.invokevirtual 297, 3) := by decide +kernel
theorem dX8_digest_208 : decode cX8_digest 208 = .ok (.iinc 3 1, 3) := by decide +kernel
theorem dX8_digest_211 : decode cX8_digest 211 = .ok (.goto (-30), 3) := by decide +kernel
theorem dX8_digest_214 : decode cX8_digest 214 = .ok (.iinc 2 1, 3) := by decide +kernel
theorem dX8_digest_217 : decode cX8_digest 217 = .ok (.goto (-48), 3) := by decide +kernel
theorem dX8_digest_220 : decode cX8_digest 220 = .ok (.iinc 1 1, 3) := by decide +kernel
theorem dX8_digest_223 : decode cX8_digest 223 = .ok (.goto (-64), 3) := by decide +kernel
theorem dX8_digest_226 : decode cX8_digest 226 = .ok (.iconst 0, 1) := by decide +kernel
theorem dX8_digest_227 : decode cX8_digest 227 = .ok (.istore_n 1, 1) := by decide +kernel
theorem dX8_digest_228 : decode cX8_digest 228 = .ok (.iload_n 1, 1) := by decide +kernel
theorem dX8_digest_229 : decode cX8_digest 229 = .ok (.aload_n 0, 1) := by decide +kernel
theorem dX8_digest_230 : decode cX8_digest 230 = .ok (.getfield 230, 3) := by decide +kernel
theorem dX8_digest_233 : decode cX8_digest 233 = .ok (.if_icmp .ge 20, 3) := by decide +kernel
theorem dX8_digest_236 : decode cX8_digest 236 = .ok (.aload_n 0, 1) := by decide +kernel
theorem dX8_digest_237 : decode cX8_digest 237 = .ok (.aload_n 0, 1) := by decide +kernel
theorem dX8_digest_238 : decode cX8_digest 238 = .ok (.getfield 42, 3) := by decide +kernel
theorem dX8_digest_241 : decode cX8_digest 241 = .ok (.iload_n 1, 1) := by decide +kernel
theorem dX8_digest_242 : decode cX8_digest 242 = .ok (.baload, 1) := by decide +kernel
theorem dX8_digest_243 : decode cX8_digest 243 = .ok (.i2l, 1) := by decide +kernel
theorem dX8_digest_244 : decode cX8_digest 244 = .ok (.invokevirtual 297, 3) := by decide +kernel
theorem dX8_digest_247 : decode cX8_digest 247 = .ok (.iinc 1 1, 3) := by decide +kernel
theorem dX8_digest_250 : decode cX8_digest 250 = .ok (.goto (-22), 3) := by decide +kernel
theorem dX8_digest_253 : decode cX8_digest 253 = .ok (.iconst 0, 1) := by decide +kernel
theorem dX8_digest_254 : decode cX8_digest 254 = .ok (.istore_n 1, 1) := by decide +kernel
theorem dX8_digest_255 : decode cX8_digest 255 = .ok (.iload_n 1, 1) := by decide +kernel
theorem dX8_digest_256 : decode cX8_digest 256 = .ok (.bipush 7, 2) := by decide +kernel
theorem dX8_digest_258 : decode cX8_digest 258 = .ok (.if_icmp .ge 19, 3) := by decide +kernel
theorem dX8_digest_261 : decode cX8_digest 261 = .ok (.aload_n 0, 1) := by decide +kernel
theorem dX8_digest_262 : decode cX8_digest 262 = .ok (.aload_n 0, 1) := by decide +kernel
theorem dX8_digest_263 : decode cX8_digest 263 = .ok (.iload_n 1, 1) := by decide +kernel
theorem dX8_digest_264 : decode cX8_digest 264 = .ok (.invokevirtual 286, 3) := by decide +kernel
theorem dX8_digest_267 : decode cX8_digest 267 = .ok (.i2l, 1) := by decide +kernel
theorem dX8_digest_268 : decode cX8_digest 268 = .ok (.invokevirtual 297, 3) := by decide +kernel
theorem dX8_digest_271 : decode cX8_digest 271 = .ok (.iinc 1 1, 3) := by decide +kernel
theorem dX8_digest_274 : decode cX8_digest 274 = .ok (.goto (-19), 3) := by decide +kernel
theorem dX8_digest_277 : decode cX8_digest 277 = .ok (.aload_n 0, 1) := by decide +kernel
theorem dX8_digest_278 : decode cX8_digest 278 = .ok (.getfield 291, 3) := by decide +kernel
theorem dX8_digest_281 : decode cX8_digest 281 = .ok (.lreturn, 1) := by decide +kernel
