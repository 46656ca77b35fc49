theorem dX5_costTo_0 : decode cX5_costTo 0 = .ok (.aload_n 0, 1) := by decide +kernel
theorem dX5_costTo_1 : decode cX5_costTo 1 = .ok (.getfield 9, 3) := by decide +kernel
theorem dX5_costTo_4 : decode cX5_costTo 4 = .ok (.iload_n 1, 1) := by decide +kernel
theorem dX5_costTo_5 : decode cX5_costTo 5 = .ok (.iaload, 1) := by decide +kernel
theorem dX5_costTo_6 : decode cX5_costTo 6 = .ok (.iconst 3, 1) := by decide +kernel
theorem dX5_costTo_7 : decode cX5_costTo 7 = .ok (.if_icmp .ne 23, 3) := by decide +kernel
theorem dX5_costTo_10 : decode cX5_costTo 10 = .ok (.iconst 0, 1) := by decide +kernel
theorem dX5_costTo_11 : decode cX5_costTo 11 = .ok (.aload_n 0, 1) := by decide +kernel
theorem dX5_costTo_12 : decode cX5_costTo 12 = .ok (.getfield 21, 3) := by decide +kernel
theorem dX5_costTo_15 : decode cX5_costTo 15 = .ok (.iload_n 2, 1) := by decide +kernel
theorem dX5_costTo_16 : decode cX5_costTo 16 = .ok (.iaload, 1) := by decide +kernel
theorem dX5_costTo_17 : decode cX5_costTo 17 = .ok (.aload_n 0, 1) := by decide +kernel
theorem dX5_costTo_18 : decode cX5_costTo 18 = .ok (.getfield 15, 3) := by decide +kernel
theorem dX5_costTo_21 : decode cX5_costTo 21 = .ok (.iload_n 1, 1) := by decide +kernel
theorem dX5_costTo_22 : decode cX5_costTo 22 = .ok (.iaload, 1) := by decide +kernel
theorem dX5_costTo_23 : decode cX5_costTo 23 = .ok (.isub, 1) := by decide +kernel
theorem dX5_costTo_24 : decode cX5_costTo 24 = .ok (.invokestatic 67, 3) := by decide +kernel
theorem dX5_costTo_27 : decode cX5_costTo 27 = .ok (.goto 9, 3) := by decide +kernel
theorem dX5_costTo_30 : decode cX5_costTo 30 = .ok (.aload_n 0, 1) := by decide +kernel
theorem dX5_costTo_31 : decode cX5_costTo 31 = .ok (.getfield 21, 3) := by decide +kernel
theorem dX5_costTo_34 : decode cX5_costTo 34 = .ok (.iload_n 2, 1) := by decide +kernel
theorem dX5_costTo_35 : decode cX5_costTo 35 = .ok (.iaload, 1) := by decide +kernel
theorem dX5_costTo_36 : decode cX5_costTo 36 = .ok (.ireturn, 1) := by decide +kernel
theorem dX0_listShops_0 : decode cX0_listShops 0 = .ok (.aload_n 0, 1) := by decide +kernel
theorem dX0_listShops_1 : decode cX0_listShops 1 = .ok (.iconst 0, 1) := by decide +kernel
theorem dX0_listShops_2 : decode cX0_listShops 2 = .ok (.putfield 59, 3) := by decide +kernel
theorem dX0_listShops_5 : decode cX0_listShops 5 = .ok (.iconst 0, 1) := by decide +kernel
theorem dX0_listShops_6 : decode cX0_listShops 6 = .ok (.istore_n 3, 1) := by decide +kernel
theorem dX0_listShops_7 : decode cX0_listShops 7 = .ok (.iload_n 3, 1) := by decide +kernel
theorem dX0_listShops_8 : decode cX0_listShops 8 = .ok (.aload_n 0, 1) := by decide +kernel
theorem dX0_listShops_9 : decode cX0_listShops 9 = .ok (.getfield 41, 3) := by decide +kernel
theorem dX0_listShops_12 : decode cX0_listShops 12 = .ok (.getfield 102, 3) := by decide +kernel
theorem dX0_listShops_15 : decode cX0_listShops 15 = .ok (.if_icmp .ge 80, 3) := by decide +kernel
theorem dX0_listShops_18 : decode cX0_listShops 18 = .ok (.aload_n 0, 1) := by decide +kernel
theorem dX0_listShops_19 : decode cX0_listShops 19 = .ok (.getfield 59, 3) := by decide +kernel
theorem dX0_listShops_22 : decode cX0_listShops 22 = .ok (.iconst 3, 1) := by decide +kernel
theorem dX0_listShops_23 : decode cX0_listShops 23 = .ok (.if_icmp .ge 72, 3) := by decide +kernel
theorem dX0_listShops_26 : decode cX0_listShops 26 = .ok (.aload_n 1, 1) := by decide +kernel
theorem dX0_listShops_27 : decode cX0_listShops 27 = .ok (.getfield 105, 3) := by decide +kernel
theorem dX0_listShops_30 : decode cX0_listShops 30 = .ok (.iload_n 3, 1) := by decide +kernel
theorem dX0_listShops_31 : decode cX0_listShops 31 = .ok (.iaload, 1) := by decide +kernel
theorem dX0_listShops_32 : decode cX0_listShops 32 = .ok (.iload_n 2, 1) := by decide +kernel
theorem dX0_listShops_33 : decode cX0_listShops 33 = .ok (.if_icmp .ne 56, 3) := by decide +kernel
theorem dX0_listShops_36 : decode cX0_listShops 36 = .ok (.aload_n 0, 1) := by decide +kernel
theorem dX0_listShops_37 : decode cX0_listShops 37 = .ok (.getfield 9, 3) := by decide +kernel
theorem dX0_listShops_40 : decode cX0_listShops 40 = .ok (.aload_n 0, 1) := by decide +kernel
theorem dX0_listShops_41 : decode cX0_listShops 41 = .ok (.getfield 59, 3) := by decide +kernel
theorem dX0_listShops_44 : decode cX0_listShops 44 = .ok (.iload_n 3, 1) := by decide +kernel
theorem dX0_listShops_45 : decode cX0_listShops 45 = .ok (.iastore, 1) := by decide +kernel
theorem dX0_listShops_46 : decode cX0_listShops 46 = .ok (.aload_n 0, 1) := by decide +kernel
theorem dX0_listShops_47 : decode cX0_listShops 47 = .ok (.getfield 15, 3) := by decide +kernel
theorem dX0_listShops_50 : decode cX0_listShops 50 = .ok (.aload_n 0, 1) := by decide +kernel
theorem dX0_listShops_51 : decode cX0_listShops 51 = .ok (.getfield 59, 3) := by decide +kernel
theorem dX0_listShops_54 : decode cX0_listShops 54 = .ok (.aload_n 0, 1) := by decide +kernel
theorem dX0_listShops_55 : decode cX0_listShops 55 = .ok (.getfield 41, 3) := by decide +kernel
theorem dX0_listShops_58 : decode cX0_listShops 58 = .ok (.iload_n 2, 1) := by decide +kernel
theorem dX0_listShops_59 : decode cX0_listShops 59 = .ok (.iload_n 3, 1) := by decide +kernel
theorem dX0_listShops_60 : decode cX0_listShops 60 = .ok (.invokevirtual 108, 3) := by decide +kernel
theorem dX0_listShops_63 : decode cX0_listShops 63 = .ok (.iastore, 1) := by decide +kernel
theorem dX0_listShops_64 : decode cX0_listShops 64 = .ok (.aload_n 0, 1) := by decide +kernel
theorem dX0_listShops_65 : decode cX0_listShops 65 = .ok (.getfield 21, 3) := by decide +kernel
theorem dX0_listShops_68 : decode cX0_listShops 68 = .ok (.aload_n 0, 1) := by decide +kernel
theorem dX0_listShops_69 : decode cX0_listShops 69 = .ok (.getfield 59, 3) := by decide +kernel
theorem dX0_listShops_72 : decode cX0_listShops 72 = .ok (.aload_n 1, 1) := by decide +kernel
theorem dX0_listShops_73 : decode cX0_listShops 73 = .ok (.getfield 62, 3) := by decide +kernel
theorem dX0_listShops_76 : decode cX0_listShops 76 = .ok (.iload_n 3, 1) := by decide +kernel
theorem dX0_listShops_77 : decode cX0_listShops 77 = .ok (.iaload, 1) := by decide +kernel
theorem dX0_listShops_78 : decode cX0_listShops 78 = .ok (.iastore, 1) := by decide +kernel
theorem dX0_listShops_79 : decode cX0_listShops 79 = .ok (.aload_n 0, 1) := by decide +kernel
theorem dX0_listShops_80 : decode cX0_listShops 80 = .ok (.dup, 1) := by decide +kernel
theorem dX0_listShops_81 : decode cX0_listShops 81 = .ok (.getfield 59, 3) := by decide +kernel
theorem dX0_listShops_84 : decode cX0_listShops 84 = .ok (.iconst 1, 1) := by decide +kernel
theorem dX0_listShops_85 : decode cX0_listShops 85 = .ok (.iadd, 1) := by decide +kernel
theorem dX0_listShops_86 : decode cX0_listShops 86 = .ok (.putfield 59, 3) := by decide +kernel
theorem dX0_listShops_89 : decode cX0_listShops 89 = .ok (.iinc 3 1, 3) := by decide +kernel
theorem dX0_listShops_92 : decode cX0_listShops 92 = .ok (.goto (-85), 3) := by decide +kernel
theorem dX0_listShops_95 : decode cX0_listShops 95 = .ok (.return_, 1) := by decide +kernel
theorem dX4_whatIs_0 : decode cX4_whatIs 0 = .ok (.aload_n 0, 1) := by decide +kernel
theorem dX4_whatIs_1 : decode cX4_whatIs 1 = .ok (.getfield 9, 3) := by decide +kernel
theorem dX4_whatIs_4 : decode cX4_whatIs 4 = .ok (.iload_n 2, 1) := by decide +kernel
theorem dX4_whatIs_5 : decode cX4_whatIs 5 = .ok (.iaload, 1) := by decide +kernel
theorem dX4_whatIs_6 : decode cX4_whatIs 6 = .ok (.aload_n 0, 1) := by decide +kernel
theorem dX4_whatIs_7 : decode cX4_whatIs 7 = .ok (.getfield 22, 3) := by decide +kernel
theorem dX4_whatIs_10 : decode cX4_whatIs 10 = .ok (.getfield 56, 3) := by decide +kernel
theorem dX4_whatIs_13 : decode cX4_whatIs 13 = .ok (.iload_n 1, 1) := by decide +kernel
theorem dX4_whatIs_14 : decode cX4_whatIs 14 = .ok (.aaload, 1) := by decide +kernel
theorem dX4_whatIs_15 : decode cX4_whatIs 15 = .ok (.iload_n 2, 1) := by decide +kernel
theorem dX4_whatIs_16 : decode cX4_whatIs 16 = .ok (.iaload, 1) := by decide +kernel
theorem dX4_whatIs_17 : decode cX4_whatIs 17 = .ok (.iadd, 1) := by decide +kernel
theorem dX4_whatIs_18 : decode cX4_whatIs 18 = .ok (.ireturn, 1) := by decide +kernel
theorem dX4_isOpen_0 : decode cX4_isOpen 0 = .ok (.aload_n 0, 1) := by decide +kernel
theorem dX4_isOpen_1 : decode cX4_isOpen 1 = .ok (.getfield 15, 3) := by decide +kernel
theorem dX4_isOpen_4 : decode cX4_isOpen 4 = .ok (.iload_n 1, 1) := by decide +kernel
theorem dX4_isOpen_5 : decode cX4_isOpen 5 = .ok (.iaload, 1) := by decide +kernel
theorem dX4_isOpen_6 : decode cX4_isOpen 6 = .ok (.istore_n 2, 1) := by decide +kernel
theorem dX4_isOpen_7 : decode cX4_isOpen 7 = .ok (.aload_n 0, 1) := by decide +kernel
theorem dX4_isOpen_8 : decode cX4_isOpen 8 = .ok (.getfield 22, 3) := by decide +kernel
theorem dX4_isOpen_11 : decode cX4_isOpen 11 = .ok (.getfield 41, 3) := by decide +kernel
theorem dX4_isOpen_14 : decode cX4_isOpen 14 = .ok (.iload_n 2, 1) := by decide +kernel
theorem dX4_isOpen_15 : decode cX4_isOpen 15 = .ok (.iaload, 1) := by decide +kernel
theorem dX4_isOpen_16 : decode cX4_isOpen 16 = .ok (.iconst 4, 1) := by decide +kernel
theorem dX4_isOpen_17 : decode cX4_isOpen 17 = .ok (.if_icmp .ne 12, 3) := by decide +kernel
theorem dX4_isOpen_20 : decode cX4_isOpen 20 = .ok (.aload_n 0, 1) := by decide +kernel
theorem dX4_isOpen_21 : decode cX4_isOpen 21 = .ok (.getfield 18, 3) := by decide +kernel
theorem dX4_isOpen_24 : decode cX4_isOpen 24 = .ok (.iload_n 2, 1) := by decide +kernel
theorem dX4_isOpen_25 : decode cX4_isOpen 25 = .ok (.baload, 1) := by decide +kernel
theorem dX4_isOpen_26 : decode cX4_isOpen 26 = .ok (.ifCond .eq 7, 3) := by decide +kernel
theorem dX4_isOpen_29 : decode cX4_isOpen 29 = .ok (.iconst 1, 1) := by decide +kernel
theorem dX4_isOpen_30 : decode cX4_isOpen 30 = .ok (.goto 4, 3) := by decide +kernel
theorem dX4_isOpen_33 : decode cX4_isOpen 33 = .ok (.iconst 0, 1) := by decide +kernel
theorem dX4_isOpen_34 : decode cX4_isOpen 34 = .ok (.ireturn, 1) := by decide +kernel
theorem dX4_choice_0 : decode cX4_choice 0 = .ok (.iconst (-1), 1) := by decide +kernel
theorem dX4_choice_1 : decode cX4_choice 1 = .ok (.istore_n 3, 1) := by decide +kernel
theorem dX4_choice_2 : decode cX4_choice 2 = .ok (.aload_n 0, 1) := by decide +kernel
theorem dX4_choice_3 : decode cX4_choice 3 = .ok (.getfield 22, 3) := by decide +kernel
theorem dX4_choice_6 : decode cX4_choice 6 = .ok (.getfield 60, 3) := by decide +kernel
theorem dX4_choice_9 : decode cX4_choice 9 = .ok (.iload_n 1, 1) := by decide +kernel
theorem dX4_choice_10 : decode cX4_choice 10 = .ok (.iaload, 1) := by decide +kernel
theorem dX4_choice_11 : decode cX4_choice 11 = .ok (.iconst 1, 1) := by decide +kernel
theorem dX4_choice_12 : decode cX4_choice 12 = .ok (.iadd, 1) := by decide +kernel
theorem dX4_choice_13 : decode cX4_choice 13 = .ok (.istore 4, 2) := by decide +kernel
theorem dX4_choice_15 : decode cX4_choice 15 = .ok (.iconst 0, 1) := by decide +kernel
theorem dX4_choice_16 : decode cX4_choice 16 = .ok (.istore 5, 2) := by decide +kernel
theorem dX4_choice_18 : decode cX4_choice 18 = .ok (.iload 5, 2) := by decide +kernel
theorem dX4_choice_20 : decode cX4_choice 20 = .ok (.aload_n 0, 1) := by decide +kernel
theorem dX4_choice_21 : decode cX4_choice 21 = .ok (.getfield 22, 3) := by decide +kernel
theorem dX4_choice_24 : decode cX4_choice 24 = .ok (.getfield 26, 3) := by decide +kernel
theorem dX4_choice_27 : decode cX4_choice 27 = .ok (.if_icmp .ge 47, 3) := by decide +kernel
theorem dX4_choice_30 : decode cX4_choice 30 = .ok (.aload_n 0, 1) := by decide +kernel
theorem dX4_choice_31 : decode cX4_choice 31 = .ok (.iload_n 1, 1) := by decide +kernel
theorem dX4_choice_32 : decode cX4_choice 32 = .ok (.iload 5, 2) := by decide +kernel
theorem dX4_choice_34 : decode cX4_choice 34 = .ok (.invokevirtual 63, 3) := by decide +kernel
theorem dX4_choice_37 : decode cX4_choice 37 = .ok (.istore 6, 2) := by decide +kernel
theorem dX4_choice_39 : decode cX4_choice 39 = .ok (.iload 6, 2) := by decide +kernel
theorem dX4_choice_41 : decode cX4_choice 41 = .ok (.iload 4, 2) := by decide +kernel
theorem dX4_choice_43 : decode cX4_choice 43 = .ok (.if_icmp .ge 25, 3) := by decide +kernel
theorem dX4_choice_46 : decode cX4_choice 46 = .ok (.iload 5, 2) := by decide +kernel
theorem dX4_choice_48 : decode cX4_choice 48 = .ok (.iload_n 2, 1) := by decide +kernel
theorem dX4_choice_49 : decode cX4_choice 49 = .ok (.if_icmp .eq 19, 3) := by decide +kernel
theorem dX4_choice_52 : decode cX4_choice 52 = .ok (.aload_n 0, 1) := by decide +kernel
theorem dX4_choice_53 : decode cX4_choice 53 = .ok (.iload 5, 2) := by decide +kernel
theorem dX4_choice_55 : decode cX4_choice 55 = .ok (.invokevirtual 44, 3) := by decide +kernel
theorem dX4_choice_58 : decode cX4_choice 58 = .ok (.ifCond .eq 10, 3) := by decide +kernel
theorem dX4_choice_61 : decode cX4_choice 61 = .ok (.iload 5, 2) := by decide +kernel
theorem dX4_choice_63 : decode cX4_choice 63 = .ok (.istore_n 3, 1) := by decide +kernel
theorem dX4_choice_64 : decode cX4_choice 64 = .ok (.iload 6, 2) := by decide +kernel
theorem dX4_choice_66 : decode cX4_choice 66 = .ok (.istore 4, 2) := by decide +kernel
theorem dX4_choice_68 : decode cX4_choice 68 = .ok (.iinc 5 1, 3) := by decide +kernel
theorem dX4_choice_71 : decode cX4_choice 71 = .ok (.goto (-53), 3) := by decide +kernel
theorem dX4_choice_74 : decode cX4_choice 74 = .ok (.iload_n 3, 1) := by decide +kernel
theorem dX4_choice_75 : decode cX4_choice 75 = .ok (.ireturn, 1) := by decide +kernel
theorem dX4_profitOf_0 : decode cX4_profitOf 0 = .ok (.iconst 0, 1) := by decide +kernel
theorem dX4_profitOf_1 : decode cX4_profitOf 1 = .ok (.istore_n 2, 1) := by decide +kernel
theorem dX4_profitOf_2 : decode cX4_profitOf 2 = .ok (.iconst 0, 1) := by decide +kernel
theorem dX4_profitOf_3 : decode cX4_profitOf 3 = .ok (.istore_n 3, 1) := by decide +kernel
theorem dX4_profitOf_4 : decode cX4_profitOf 4 = .ok (.iload_n 3, 1) := by decide +kernel
theorem dX4_profitOf_5 : decode cX4_profitOf 5 = .ok (.aload_n 0, 1) := by decide +kernel
theorem dX4_profitOf_6 : decode cX4_profitOf 6 = .ok (.getfield 22, 3) := by decide +kernel
theorem dX4_profitOf_9 : decode cX4_profitOf 9 = .ok (.getfield 70, 3) := by decide +kernel
theorem dX4_profitOf_12 : decode cX4_profitOf 12 = .ok (.if_icmp .ge 65, 3) := by decide +kernel
theorem dX4_profitOf_15 : decode cX4_profitOf 15 = .ok (.aload_n 0, 1) := by decide +kernel
theorem dX4_profitOf_16 : decode cX4_profitOf 16 = .ok (.iload_n 3, 1) := by decide +kernel
theorem dX4_profitOf_17 : decode cX4_profitOf 17 = .ok (.iconst (-1), 1) := by decide +kernel
theorem dX4_profitOf_18 : decode cX4_profitOf 18 = .ok (.invokevirtual 67, 3) := by decide +kernel
theorem dX4_profitOf_21 : decode cX4_profitOf 21 = .ok (.istore 4, 2) := by decide +kernel
theorem dX4_profitOf_23 : decode cX4_profitOf 23 = .ok (.iload 4, 2) := by decide +kernel
theorem dX4_profitOf_25 : decode cX4_profitOf 25 = .ok (.iconst (-1), 1) := by decide +kernel
theorem dX4_profitOf_26 : decode cX4_profitOf 26 = .ok (.if_icmp .eq 45, 3) := by decide +kernel
theorem dX4_profitOf_29 : decode cX4_profitOf 29 = .ok (.aload_n 0, 1) := by decide +kernel
theorem dX4_profitOf_30 : decode cX4_profitOf 30 = .ok (.getfield 15, 3) := by decide +kernel
theorem dX4_profitOf_33 : decode cX4_profitOf 33 = .ok (.iload 4, 2) := by decide +kernel
theorem dX4_profitOf_35 : decode cX4_profitOf 35 = .ok (.iaload, 1) := by decide +kernel
theorem dX4_profitOf_36 : decode cX4_profitOf 36 = .ok (.iload_n 1, 1) := by decide +kernel
theorem dX4_profitOf_37 : decode cX4_profitOf 37 = .ok (.if_icmp .ne 34, 3) := by decide +kernel
theorem dX4_profitOf_40 : decode cX4_profitOf 40 = .ok (.iload_n 2, 1) := by decide +kernel
theorem dX4_profitOf_41 : decode cX4_profitOf 41 = .ok (.aload_n 0, 1) := by decide +kernel
theorem dX4_profitOf_42 : decode cX4_profitOf 42 = .ok (.getfield 22, 3) := by decide +kernel
theorem dX4_profitOf_45 : decode cX4_profitOf 45 = .ok (.getfield 73, 3) := by decide +kernel
theorem dX4_profitOf_48 : decode cX4_profitOf 48 = .ok (.iload_n 3, 1) := by decide +kernel
theorem dX4_profitOf_49 : decode cX4_profitOf 49 = .ok (.iaload, 1) := by decide +kernel
theorem dX4_profitOf_50 : decode cX4_profitOf 50 = .ok (.aload_n 0, 1) := by decide +kernel
theorem dX4_profitOf_51 : decode cX4_profitOf 51 = .ok (.getfield 9, 3) := by decide +kernel
theorem dX4_profitOf_54 : decode cX4_profitOf 54 = .ok (.iload 4, 2) := by decide +kernel
theorem dX4_profitOf_56 : decode cX4_profitOf 56 = .ok (.iaload, 1) := by decide +kernel
theorem dX4_profitOf_57 : decode cX4_profitOf 57 = .ok (.aload_n 0, 1) := by decide +kernel
theorem dX4_profitOf_58 : decode cX4_profitOf 58 = .ok (.getfield 22, 3) := by decide +kernel
theorem dX4_profitOf_61 : decode cX4_profitOf 61 = .ok (.iload_n 1, 1) := by decide +kernel
theorem dX4_profitOf_62 : decode cX4_profitOf 62 = .ok (.iload 4, 2) := by decide +kernel
theorem dX4_profitOf_64 : decode cX4_profitOf 64 = .ok (.invokevirtual 76, 3) := by decide +kernel
theorem dX4_profitOf_67 : decode cX4_profitOf 67 = .ok (.isub, 1) := by decide +kernel
theorem dX4_profitOf_68 : decode cX4_profitOf 68 = .ok (.imul, 1) := by decide +kernel
theorem dX4_profitOf_69 : decode cX4_profitOf 69 = .ok (.iadd, 1) := by decide +kernel
theorem dX4_profitOf_70 : decode cX4_profitOf 70 = .ok (.istore_n 2, 1) := by decide +kernel
theorem dX4_profitOf_71 : decode cX4_profitOf 71 = .ok (.iinc 3 1, 3) := by decide +kernel
theorem dX4_profitOf_74 : decode cX4_profitOf 74 = .ok (.goto (-70), 3) := by decide +kernel
theorem dX4_profitOf_77 : decode cX4_profitOf 77 = .ok (.iload_n 2, 1) := by decide +kernel
theorem dX4_profitOf_78 : decode cX4_profitOf 78 = .ok (.ireturn, 1) := by decide +kernel
theorem dX0_layOthers_0 : decode cX0_layOthers 0 = .ok (.iconst 0, 1) := by decide +kernel
theorem dX0_layOthers_1 : decode cX0_layOthers 1 = .ok (.istore_n 3, 1) := by decide +kernel
theorem dX0_layOthers_2 : decode cX0_layOthers 2 = .ok (.iload_n 3, 1) := by decide +kernel
theorem dX0_layOthers_3 : decode cX0_layOthers 3 = .ok (.aload_n 0, 1) := by decide +kernel
theorem dX0_layOthers_4 : decode cX0_layOthers 4 = .ok (.getfield 41, 3) := by decide +kernel
theorem dX0_layOthers_7 : decode cX0_layOthers 7 = .ok (.getfield 112, 3) := by decide +kernel
theorem dX0_layOthers_10 : decode cX0_layOthers 10 = .ok (.if_icmp .ge 129, 3) := by decide +kernel
theorem dX0_layOthers_13 : decode cX0_layOthers 13 = .ok (.aload_n 0, 1) := by decide +kernel
theorem dX0_layOthers_14 : decode cX0_layOthers 14 = .ok (.getfield 26, 3) := by decide +kernel
theorem dX0_layOthers_17 : decode cX0_layOthers 17 = .ok (.iconst 0, 1) := by decide +kernel
theorem dX0_layOthers_18 : decode cX0_layOthers 18 = .ok (.aaload, 1) := by decide +kernel
theorem dX0_layOthers_19 : decode cX0_layOthers 19 = .ok (.iload_n 3, 1) := by decide +kernel
theorem dX0_layOthers_20 : decode cX0_layOthers 20 = .ok (.aload_n 0, 1) := by decide +kernel
theorem dX0_layOthers_21 : decode cX0_layOthers 21 = .ok (.getfield 41, 3) := by decide +kernel
theorem dX0_layOthers_24 : decode cX0_layOthers 24 = .ok (.getfield 115, 3) := by decide +kernel
theorem dX0_layOthers_27 : decode cX0_layOthers 27 = .ok (.iload_n 3, 1) := by decide +kernel
theorem dX0_layOthers_28 : decode cX0_layOthers 28 = .ok (.iaload, 1) := by decide +kernel
theorem dX0_layOthers_29 : decode cX0_layOthers 29 = .ok (.iconst 1, 1) := by decide +kernel
theorem dX0_layOthers_30 : decode cX0_layOthers 30 = .ok (.iadd, 1) := by decide +kernel
theorem dX0_layOthers_31 : decode cX0_layOthers 31 = .ok (.iastore, 1) := by decide +kernel
theorem dX0_layOthers_32 : decode cX0_layOthers 32 = .ok (.aload_n 0, 1) := by decide +kernel
theorem dX0_layOthers_33 : decode cX0_layOthers 33 = .ok (.getfield 29, 3) := by decide +kernel
theorem dX0_layOthers_36 : decode cX0_layOthers 36 = .ok (.iconst 0, 1) := by decide +kernel
theorem dX0_layOthers_37 : decode cX0_layOthers 37 = .ok (.aaload, 1) := by decide +kernel
theorem dX0_layOthers_38 : decode cX0_layOthers 38 = .ok (.iload_n 3, 1) := by decide +kernel
theorem dX0_layOthers_39 : decode cX0_layOthers 39 = .ok (.iconst (-1), 1) := by decide +kernel
theorem dX0_layOthers_40 : decode cX0_layOthers 40 = .ok (.iastore, 1) := by decide +kernel
theorem dX0_layOthers_41 : decode cX0_layOthers 41 = .ok (.aload_n 0, 1) := by decide +kernel
theorem dX0_layOthers_42 : decode cX0_layOthers 42 = .ok (.getfield 32, 3) := by decide +kernel
theorem dX0_layOthers_45 : decode cX0_layOthers 45 = .ok (.iconst 0, 1) := by decide +kernel
theorem dX0_layOthers_46 : decode cX0_layOthers 46 = .ok (.aaload, 1) := by decide +kernel
theorem dX0_layOthers_47 : decode cX0_layOthers 47 = .ok (.iload_n 3, 1) := by decide +kernel
theorem dX0_layOthers_48 : decode cX0_layOthers 48 = .ok (.iconst 0, 1) := by decide +kernel
theorem dX0_layOthers_49 : decode cX0_layOthers 49 = .ok (.iastore, 1) := by decide +kernel
theorem dX0_layOthers_50 : decode cX0_layOthers 50 = .ok (.iconst 0, 1) := by decide +kernel
theorem dX0_layOthers_51 : decode cX0_layOthers 51 = .ok (.istore 4, 2) := by decide +kernel
theorem dX0_layOthers_53 : decode cX0_layOthers 53 = .ok (.iload 4, 2) := by decide +kernel
theorem dX0_layOthers_55 : decode cX0_layOthers 55 = .ok (.aload_n 0, 1) := by decide +kernel
theorem dX0_layOthers_56 : decode cX0_layOthers 56 = .ok (.getfield 41, 3) := by decide +kernel
theorem dX0_layOthers_59 : decode cX0_layOthers 59 = .ok (.getfield 102, 3) := by decide +kernel
theorem dX0_layOthers_62 : decode cX0_layOthers 62 = .ok (.if_icmp .ge 71, 3) := by decide +kernel
theorem dX0_layOthers_65 : decode cX0_layOthers 65 = .ok (.aload_n 1, 1) := by decide +kernel
theorem dX0_layOthers_66 : decode cX0_layOthers 66 = .ok (.iload_n 3, 1) := by decide +kernel
theorem dX0_layOthers_67 : decode cX0_layOthers 67 = .ok (.iload 4, 2) := by decide +kernel
theorem dX0_layOthers_69 : decode cX0_layOthers 69 = .ok (.invokevirtual 118, 3) := by decide +kernel
theorem dX0_layOthers_72 : decode cX0_layOthers 72 = .ok (.istore 5, 2) := by decide +kernel
theorem dX0_layOthers_74 : decode cX0_layOthers 74 = .ok (.iload 5, 2) := by decide +kernel
theorem dX0_layOthers_76 : decode cX0_layOthers 76 = .ok (.aload_n 0, 1) := by decide +kernel
theorem dX0_layOthers_77 : decode cX0_layOthers 77 = .ok (.getfield 26, 3) := by decide +kernel
theorem dX0_layOthers_80 : decode cX0_layOthers 80 = .ok (.iconst 0, 1) := by decide +kernel
theorem dX0_layOthers_81 : decode cX0_layOthers 81 = .ok (.aaload, 1) := by decide +kernel
theorem dX0_layOthers_82 : decode cX0_layOthers 82 = .ok (.iload_n 3, 1) := by decide +kernel
theorem dX0_layOthers_83 : decode cX0_layOthers 83 = .ok (.iaload, 1) := by decide +kernel
theorem dX0_layOthers_84 : decode cX0_layOthers 84 = .ok (.if_icmp .ge 43, 3) := by decide +kernel
theorem dX0_layOthers_87 : decode cX0_layOthers 87 = .ok (.aload_n 1, 1) := by decide +kernel
theorem dX0_layOthers_88 : decode cX0_layOthers 88 = .ok (.getfield 105, 3) := by decide +kernel
theorem dX0_layOthers_91 : decode cX0_layOthers 91 = .ok (.iload 4, 2) := by decide +kernel
theorem dX0_layOthers_93 : decode cX0_layOthers 93 = .ok (.iaload, 1) := by decide +kernel
theorem dX0_layOthers_94 : decode cX0_layOthers 94 = .ok (.iload_n 2, 1) := by decide +kernel
theorem dX0_layOthers_95 : decode cX0_layOthers 95 = .ok (.if_icmp .eq 32, 3) := by decide +kernel
theorem dX0_layOthers_98 : decode cX0_layOthers 98 = .ok (.aload_n 1, 1) := by decide +kernel
theorem dX0_layOthers_99 : decode cX0_layOthers 99 = .ok (.iload 4, 2) := by decide +kernel
theorem dX0_layOthers_101 : decode cX0_layOthers 101 = .ok (.invokevirtual 121, 3) := by decide +kernel
theorem dX0_layOthers_104 : decode cX0_layOthers 104 = .ok (.ifCond .eq 23, 3) := by decide +kernel
theorem dX0_layOthers_107 : decode cX0_layOthers 107 = .ok (.aload_n 0, 1) := by decide +kernel
theorem dX0_layOthers_108 : decode cX0_layOthers 108 = .ok (.getfield 26, 3) := by decide +kernel
theorem dX0_layOthers_111 : decode cX0_layOthers 111 = .ok (.iconst 0, 1) := by decide +kernel
theorem dX0_layOthers_112 : decode cX0_layOthers 112 = .ok (.aaload, 1) := by decide +kernel
theorem dX0_layOthers_113 : decode cX0_layOthers 113 = .ok (.iload_n 3, 1) := by decide +kernel
theorem dX0_layOthers_114 : decode cX0_layOthers 114 = .ok (.iload 5, 2) := by decide +kernel
theorem dX0_layOthers_116 : decode cX0_layOthers 116 = .ok (.iastore, 1) := by decide +kernel
theorem dX0_layOthers_117 : decode cX0_layOthers 117 = .ok (.aload_n 0, 1) := by decide +kernel
theorem dX0_layOthers_118 : decode cX0_layOthers 118 = .ok (.getfield 29, 3) := by decide +kernel
theorem dX0_layOthers_121 : decode cX0_layOthers 121 = .ok (.iconst 0, 1) := by decide +kernel
theorem dX0_layOthers_122 : decode cX0_layOthers 122 = .ok (.aaload, 1) := by decide +kernel
theorem dX0_layOthers_123 : decode cX0_layOthers 123 = .ok (.iload_n 3, 1) := by decide +kernel
theorem dX0_layOthers_124 : decode cX0_layOthers 124 = .ok (.iload 4, 2) := by decide +kernel
theorem dX0_layOthers_126 : decode cX0_layOthers 126 = .ok (.iastore, 1) := by decide +kernel
theorem dX0_layOthers_127 : decode cX0_layOthers 127 = .ok (.iinc 4 1, 3) := by decide +kernel
theorem dX0_layOthers_130 : decode cX0_layOthers 130 = .ok (.goto (-77), 3) := by decide +kernel
theorem dX0_layOthers_133 : decode cX0_layOthers 133 = .ok (.iinc 3 1, 3) := by decide +kernel
theorem dX0_layOthers_136 : decode cX0_layOthers 136 = .ok (.goto (-134), 3) := by decide +kernel
theorem dX0_layOthers_139 : decode cX0_layOthers 139 = .ok (.return_, 1) := by decide +kernel
theorem dX0_highestFor_0 : decode cX0_highestFor 0 = .ok (.aload_n 0, 1) := by decide +kernel
theorem dX0_highestFor_1 : decode cX0_highestFor 1 = .ok (.getfield 9, 3) := by decide +kernel
theorem dX0_highestFor_4 : decode cX0_highestFor 4 = .ok (.iload_n 1, 1) := by decide +kernel
theorem dX0_highestFor_5 : decode cX0_highestFor 5 = .ok (.iaload, 1) := by decide +kernel
theorem dX0_highestFor_6 : decode cX0_highestFor 6 = .ok (.istore_n 3, 1) := by decide +kernel
theorem dX0_highestFor_7 : decode cX0_highestFor 7 = .ok (.aload_n 0, 1) := by decide +kernel
theorem dX0_highestFor_8 : decode cX0_highestFor 8 = .ok (.getfield 26, 3) := by decide +kernel
theorem dX0_highestFor_11 : decode cX0_highestFor 11 = .ok (.iload_n 1, 1) := by decide +kernel
theorem dX0_highestFor_12 : decode cX0_highestFor 12 = .ok (.aaload, 1) := by decide +kernel
theorem dX0_highestFor_13 : decode cX0_highestFor 13 = .ok (.iload_n 2, 1) := by decide +kernel
theorem dX0_highestFor_14 : decode cX0_highestFor 14 = .ok (.iaload, 1) := by decide +kernel
theorem dX0_highestFor_15 : decode cX0_highestFor 15 = .ok (.aload_n 0, 1) := by decide +kernel
theorem dX0_highestFor_16 : decode cX0_highestFor 16 = .ok (.getfield 41, 3) := by decide +kernel
theorem dX0_highestFor_19 : decode cX0_highestFor 19 = .ok (.getfield 141, 3) := by decide +kernel
theorem dX0_highestFor_22 : decode cX0_highestFor 22 = .ok (.iload_n 2, 1) := by decide +kernel
theorem dX0_highestFor_23 : decode cX0_highestFor 23 = .ok (.aaload, 1) := by decide +kernel
theorem dX0_highestFor_24 : decode cX0_highestFor 24 = .ok (.iload_n 3, 1) := by decide +kernel
theorem dX0_highestFor_25 : decode cX0_highestFor 25 = .ok (.iaload, 1) := by decide +kernel
theorem dX0_highestFor_26 : decode cX0_highestFor 26 = .ok (.isub, 1) := by decide +kernel
theorem dX0_highestFor_27 : decode cX0_highestFor 27 = .ok (.istore 4, 2) := by decide +kernel
theorem dX0_highestFor_29 : decode cX0_highestFor 29 = .ok (.iload_n 3, 1) := by decide +kernel
theorem dX0_highestFor_30 : decode cX0_highestFor 30 = .ok (.aload_n 0, 1) := by decide +kernel
theorem dX0_highestFor_31 : decode cX0_highestFor 31 = .ok (.getfield 29, 3) := by decide +kernel
theorem dX0_highestFor_34 : decode cX0_highestFor 34 = .ok (.iload_n 1, 1) := by decide +kernel
theorem dX0_highestFor_35 : decode cX0_highestFor 35 = .ok (.aaload, 1) := by decide +kernel
theorem dX0_highestFor_36 : decode cX0_highestFor 36 = .ok (.iload_n 2, 1) := by decide +kernel
theorem dX0_highestFor_37 : decode cX0_highestFor 37 = .ok (.iaload, 1) := by decide +kernel
theorem dX0_highestFor_38 : decode cX0_highestFor 38 = .ok (.if_icmp .ge 8, 3) := by decide +kernel
theorem dX0_highestFor_41 : decode cX0_highestFor 41 = .ok (.iload 4, 2) := by decide +kernel
theorem dX0_highestFor_43 : decode cX0_highestFor 43 = .ok (.goto 7, 3) := by decide +kernel
theorem dX0_highestFor_46 : decode cX0_highestFor 46 = .ok (.iload 4, 2) := by decide +kernel
theorem dX0_highestFor_48 : decode cX0_highestFor 48 = .ok (.iconst 1, 1) := by decide +kernel
theorem dX0_highestFor_49 : decode cX0_highestFor 49 = .ok (.isub, 1) := by decide +kernel
theorem dX0_highestFor_50 : decode cX0_highestFor 50 = .ok (.ireturn, 1) := by decide +kernel
theorem dX0_putPrice_0 : decode cX0_putPrice 0 = .ok (.aload_n 0, 1) := by decide +kernel
theorem dX0_putPrice_1 : decode cX0_putPrice 1 = .ok (.getfield 18, 3) := by decide +kernel
theorem dX0_putPrice_4 : decode cX0_putPrice 4 = .ok (.iload_n 1, 1) := by decide +kernel
theorem dX0_putPrice_5 : decode cX0_putPrice 5 = .ok (.iload_n 2, 1) := by decide +kernel
theorem dX0_putPrice_6 : decode cX0_putPrice 6 = .ok (.iastore, 1) := by decide +kernel
theorem dX0_putPrice_7 : decode cX0_putPrice 7 = .ok (.aload_n 0, 1) := by decide +kernel
theorem dX0_putPrice_8 : decode cX0_putPrice 8 = .ok (.getfield 9, 3) := by decide +kernel
theorem dX0_putPrice_11 : decode cX0_putPrice 11 = .ok (.iload_n 1, 1) := by decide +kernel
theorem dX0_putPrice_12 : decode cX0_putPrice 12 = .ok (.iaload, 1) := by decide +kernel
theorem dX0_putPrice_13 : decode cX0_putPrice 13 = .ok (.istore_n 3, 1) := by decide +kernel
theorem dX0_putPrice_14 : decode cX0_putPrice 14 = .ok (.iconst 0, 1) := by decide +kernel
theorem dX0_putPrice_15 : decode cX0_putPrice 15 = .ok (.istore 4, 2) := by decide +kernel
theorem dX0_putPrice_17 : decode cX0_putPrice 17 = .ok (.iload 4, 2) := by decide +kernel
theorem dX0_putPrice_19 : decode cX0_putPrice 19 = .ok (.aload_n 0, 1) := by decide +kernel
theorem dX0_putPrice_20 : decode cX0_putPrice 20 = .ok (.getfield 41, 3) := by decide +kernel
theorem dX0_putPrice_23 : decode cX0_putPrice 23 = .ok (.getfield 112, 3) := by decide +kernel
theorem dX0_putPrice_26 : decode cX0_putPrice 26 = .ok (.if_icmp .ge 134, 3) := by decide +kernel
theorem dX0_putPrice_29 : decode cX0_putPrice 29 = .ok (.iload_n 2, 1) := by decide +kernel
theorem dX0_putPrice_30 : decode cX0_putPrice 30 = .ok (.aload_n 0, 1) := by decide +kernel
theorem dX0_putPrice_31 : decode cX0_putPrice 31 = .ok (.iload_n 1, 1) := by decide +kernel
theorem dX0_putPrice_32 : decode cX0_putPrice 32 = .ok (.iload 4, 2) := by decide +kernel
theorem dX0_putPrice_34 : decode cX0_putPrice 34 = .ok (.invokevirtual 138, 3) := by decide +kernel
theorem dX0_putPrice_37 : decode cX0_putPrice 37 = .ok (.if_icmp .gt 7, 3) := by decide +kernel
theorem dX0_putPrice_40 : decode cX0_putPrice 40 = .ok (.iconst 1, 1) := by decide +kernel
theorem dX0_putPrice_41 : decode cX0_putPrice 41 = .ok (.goto 4, 3) := by decide +kernel
theorem dX0_putPrice_44 : decode cX0_putPrice 44 = .ok (.iconst 0, 1) := by decide +kernel
theorem dX0_putPrice_45 : decode cX0_putPrice 45 = .ok (.istore 5, 2) := by decide +kernel
theorem dX0_putPrice_47 : decode cX0_putPrice 47 = .ok (.aload_n 0, 1) := by decide +kernel
theorem dX0_putPrice_48 : decode cX0_putPrice 48 = .ok (.getfield 26, 3) := by decide +kernel
theorem dX0_putPrice_51 : decode cX0_putPrice 51 = .ok (.iload_n 1, 1) := by decide +kernel
theorem dX0_putPrice_52 : decode cX0_putPrice 52 = .ok (.iconst 1, 1) := by decide +kernel
theorem dX0_putPrice_53 : decode cX0_putPrice 53 = .ok (.iadd, 1) := by decide +kernel
theorem dX0_putPrice_54 : decode cX0_putPrice 54 = .ok (.aaload, 1) := by decide +kernel
theorem dX0_putPrice_55 : decode cX0_putPrice 55 = .ok (.iload 4, 2) := by decide +kernel
theorem dX0_putPrice_57 : decode cX0_putPrice 57 = .ok (.iload 5, 2) := by decide +kernel
theorem dX0_putPrice_59 : decode cX0_putPrice 59 = .ok (.ifCond .eq 20, 3) := by decide +kernel
theorem dX0_putPrice_62 : decode cX0_putPrice 62 = .ok (.iload_n 2, 1) := by decide +kernel
theorem dX0_putPrice_63 : decode cX0_putPrice 63 = .ok (.aload_n 0, 1) := by decide +kernel
theorem dX0_putPrice_64 : decode cX0_putPrice 64 = .ok (.getfield 41, 3) := by decide +kernel
theorem dX0_putPrice_67 : decode cX0_putPrice 67 = .ok (.getfield 141, 3) := by decide +kernel
theorem dX0_putPrice_70 : decode cX0_putPrice 70 = .ok (.iload 4, 2) := by decide +kernel
theorem dX0_putPrice_72 : decode cX0_putPrice 72 = .ok (.aaload, 1) := by decide +kernel
theorem dX0_putPrice_73 : decode cX0_putPrice 73 = .ok (.iload_n 3, 1) := by decide +kernel
theorem dX0_putPrice_74 : decode cX0_putPrice 74 = .ok (.iaload, 1) := by decide +kernel
theorem dX0_putPrice_75 : decode cX0_putPrice 75 = .ok (.iadd, 1) := by decide +kernel
theorem dX0_putPrice_76 : decode cX0_putPrice 76 = .ok (.goto 12, 3) := by decide +kernel
theorem dX0_putPrice_79 : decode cX0_putPrice 79 = .ok (.aload_n 0, 1) := by decide +kernel
theorem dX0_putPrice_80 : decode cX0_putPrice 80 = .ok (.getfield 26, 3) := by decide +kernel
theorem dX0_putPrice_83 : decode cX0_putPrice 83 = .ok (.iload_n 1, 1) := by decide +kernel
theorem dX0_putPrice_84 : decode cX0_putPrice 84 = .ok (.aaload, 1) := by decide +kernel
theorem dX0_putPrice_85 : decode cX0_putPrice 85 = .ok (.iload 4, 2) := by decide +kernel
theorem dX0_putPrice_87 : decode cX0_putPrice 87 = .ok (.iaload, 1) := by decide +kernel
theorem dX0_putPrice_88 : decode cX0_putPrice 88 = .ok (.iastore, 1) := by decide +kernel
theorem dX0_putPrice_89 : decode cX0_putPrice 89 = .ok (.aload_n 0, 1) := by decide +kernel
theorem dX0_putPrice_90 : decode cX0_putPrice 90 = .ok (.getfield 29, 3) := by decide +kernel
theorem dX0_putPrice_93 : decode cX0_putPrice 93 = .ok (.iload_n 1, 1) := by decide +kernel
theorem dX0_putPrice_94 : decode cX0_putPrice 94 = .ok (.iconst 1, 1) := by decide +kernel
theorem dX0_putPrice_95 : decode cX0_putPrice 95 = .ok (.iadd, 1) := by decide +kernel
theorem dX0_putPrice_96 : decode cX0_putPrice 96 = .ok (.aaload, 1) := by decide +kernel
theorem dX0_putPrice_97 : decode cX0_putPrice 97 = .ok (.iload 4, 2) := by decide +kernel
theorem dX0_putPrice_99 : decode cX0_putPrice 99 = .ok (.iload 5, 2) := by decide +kernel
theorem dX0_putPrice_101 : decode cX0_putPrice 101 = .ok (.ifCond .eq 7, 3) := by decide +kernel
theorem dX0_putPrice_104 : decode cX0_putPrice 104 = .ok (.iload_n 3, 1) := by decide +kernel
theorem dX0_putPrice_105 : decode cX0_putPrice 105 = .ok (.goto 12, 3) := by decide +kernel
theorem dX0_putPrice_108 : decode cX0_putPrice 108 = .ok (.aload_n 0, 1) := by decide +kernel
theorem dX0_putPrice_109 : decode cX0_putPrice 109 = .ok (.getfield 29, 3) := by decide +kernel
theorem dX0_putPrice_112 : decode cX0_putPrice 112 = .ok (.iload_n 1, 1) := by decide +kernel
theorem dX0_putPrice_113 : decode cX0_putPrice 113 = .ok (.aaload, 1) := by decide +kernel
theorem dX0_putPrice_114 : decode cX0_putPrice 114 = .ok (.iload 4, 2) := by decide +kernel
theorem dX0_putPrice_116 : decode cX0_putPrice 116 = .ok (.iaload, 1) := by decide +kernel
theorem dX0_putPrice_117 : decode cX0_putPrice 117 = .ok (.iastore, 1) := by decide +kernel
theorem dX0_putPrice_118 : decode cX0_putPrice 118 = .ok (.aload_n 0, 1) := by decide +kernel
theorem dX0_putPrice_119 : decode cX0_putPrice 119 = .ok (.getfield 32, 3) := by decide +kernel
theorem dX0_putPrice_122 : decode cX0_putPrice 122 = .ok (.iload_n 1, 1) := by decide +kernel
theorem dX0_putPrice_123 : decode cX0_putPrice 123 = .ok (.iconst 1, 1) := by decide +kernel
theorem dX0_putPrice_124 : decode cX0_putPrice 124 = .ok (.iadd, 1) := by decide +kernel
theorem dX0_putPrice_125 : decode cX0_putPrice 125 = .ok (.aaload, 1) := by decide +kernel
theorem dX0_putPrice_126 : decode cX0_putPrice 126 = .ok (.iload 4, 2) := by decide +kernel
theorem dX0_putPrice_128 : decode cX0_putPrice 128 = .ok (.iload 5, 2) := by decide +kernel
theorem dX0_putPrice_130 : decode cX0_putPrice 130 = .ok (.ifCond .eq 14, 3) := by decide +kernel
theorem dX0_putPrice_133 : decode cX0_putPrice 133 = .ok (.iload_n 2, 1) := by decide +kernel
theorem dX0_putPrice_134 : decode cX0_putPrice 134 = .ok (.aload_n 0, 1) := by decide +kernel
theorem dX0_putPrice_135 : decode cX0_putPrice 135 = .ok (.getfield 15, 3) := by decide +kernel
theorem dX0_putPrice_138 : decode cX0_putPrice 138 = .ok (.iload_n 1, 1) := by decide +kernel
theorem dX0_putPrice_139 : decode cX0_putPrice 139 = .ok (.iaload, 1) := by decide +kernel
theorem dX0_putPrice_140 : decode cX0_putPrice 140 = .ok (.isub, 1) := by decide +kernel
theorem dX0_putPrice_141 : decode cX0_putPrice 141 = .ok (.goto 12, 3) := by decide +kernel
theorem dX0_putPrice_144 : decode cX0_putPrice 144 = .ok (.aload_n 0, 1) := by decide +kernel
theorem dX0_putPrice_145 : decode cX0_putPrice 145 = .ok (.getfield 32, 3) := by decide +kernel
theorem dX0_putPrice_148 : decode cX0_putPrice 148 = .ok (.iload_n 1, 1) := by decide +kernel
theorem dX0_putPrice_149 : decode cX0_putPrice 149 = .ok (.aaload, 1) := by decide +kernel
theorem dX0_putPrice_150 : decode cX0_putPrice 150 = .ok (.iload 4, 2) := by decide +kernel
theorem dX0_putPrice_152 : decode cX0_putPrice 152 = .ok (.iaload, 1) := by decide +kernel
theorem dX0_putPrice_153 : decode cX0_putPrice 153 = .ok (.iastore, 1) := by decide +kernel
theorem dX0_putPrice_154 : decode cX0_putPrice 154 = .ok (.iinc 4 1, 3) := by decide +kernel
theorem dX0_putPrice_157 : decode cX0_putPrice 157 = .ok (.goto (-140), 3) := by decide +kernel
theorem dX0_putPrice_160 : decode cX0_putPrice 160 = .ok (.return_, 1) := by decide +kernel
theorem dX0_keepIfBetter_0 : decode cX0_keepIfBetter 0 = .ok (.iload_n 1, 1) := by decide +kernel
theorem dX0_keepIfBetter_1 : decode cX0_keepIfBetter 1 = .ok (.aload_n 0, 1) := by decide +kernel
theorem dX0_keepIfBetter_2 : decode cX0_keepIfBetter 2 = .ok (.getfield 85, 3) := by decide +kernel
theorem dX0_keepIfBetter_5 : decode cX0_keepIfBetter 5 = .ok (.if_icmp .le 36, 3) := by decide +kernel
theorem dX0_keepIfBetter_8 : decode cX0_keepIfBetter 8 = .ok (.aload_n 0, 1) := by decide +kernel
theorem dX0_keepIfBetter_9 : decode cX0_keepIfBetter 9 = .ok (.iload_n 1, 1) := by decide +kernel
theorem dX0_keepIfBetter_10 : decode cX0_keepIfBetter 10 = .ok (.putfield 85, 3) := by decide +kernel
theorem dX0_keepIfBetter_13 : decode cX0_keepIfBetter 13 = .ok (.iconst 0, 1) := by decide +kernel
theorem dX0_keepIfBetter_14 : decode cX0_keepIfBetter 14 = .ok (.istore_n 2, 1) := by decide +kernel
theorem dX0_keepIfBetter_15 : decode cX0_keepIfBetter 15 = .ok (.iload_n 2, 1) := by decide +kernel
theorem dX0_keepIfBetter_16 : decode cX0_keepIfBetter 16 = .ok (.aload_n 0, 1) := by decide +kernel
theorem dX0_keepIfBetter_17 : decode cX0_keepIfBetter 17 = .ok (.getfield 59, 3) := by decide +kernel
theorem dX0_keepIfBetter_20 : decode cX0_keepIfBetter 20 = .ok (.if_icmp .ge 21, 3) := by decide +kernel
theorem dX0_keepIfBetter_23 : decode cX0_keepIfBetter 23 = .ok (.aload_n 0, 1) := by decide +kernel
theorem dX0_keepIfBetter_24 : decode cX0_keepIfBetter 24 = .ok (.getfield 21, 3) := by decide +kernel
theorem dX0_keepIfBetter_27 : decode cX0_keepIfBetter 27 = .ok (.iload_n 2, 1) := by decide +kernel
theorem dX0_keepIfBetter_28 : decode cX0_keepIfBetter 28 = .ok (.aload_n 0, 1) := by decide +kernel
theorem dX0_keepIfBetter_29 : decode cX0_keepIfBetter 29 = .ok (.getfield 18, 3) := by decide +kernel
theorem dX0_keepIfBetter_32 : decode cX0_keepIfBetter 32 = .ok (.iload_n 2, 1) := by decide +kernel
theorem dX0_keepIfBetter_33 : decode cX0_keepIfBetter 33 = .ok (.iaload, 1) := by decide +kernel
theorem dX0_keepIfBetter_34 : decode cX0_keepIfBetter 34 = .ok (.iastore, 1) := by decide +kernel
theorem dX0_keepIfBetter_35 : decode cX0_keepIfBetter 35 = .ok (.iinc 2 1, 3) := by decide +kernel
theorem dX0_keepIfBetter_38 : decode cX0_keepIfBetter 38 = .ok (.goto (-23), 3) := by decide +kernel
theorem dX0_keepIfBetter_41 : decode cX0_keepIfBetter 41 = .ok (.return_, 1) := by decide +kernel
theorem dX0_tryOnePrice_0 : decode cX0_tryOnePrice 0 = .ok (.iconst 0, 1) := by decide +kernel
theorem dX0_tryOnePrice_1 : decode cX0_tryOnePrice 1 = .ok (.istore_n 1, 1) := by decide +kernel
theorem dX0_tryOnePrice_2 : decode cX0_tryOnePrice 2 = .ok (.iload_n 1, 1) := by decide +kernel
theorem dX0_tryOnePrice_3 : decode cX0_tryOnePrice 3 = .ok (.bipush 9, 2) := by decide +kernel
theorem dX0_tryOnePrice_5 : decode cX0_tryOnePrice 5 = .ok (.if_icmp .gt 81, 3) := by decide +kernel
theorem dX0_tryOnePrice_8 : decode cX0_tryOnePrice 8 = .ok (.iconst 0, 1) := by decide +kernel
theorem dX0_tryOnePrice_9 : decode cX0_tryOnePrice 9 = .ok (.istore_n 2, 1) := by decide +kernel
theorem dX0_tryOnePrice_10 : decode cX0_tryOnePrice 10 = .ok (.iload_n 2, 1) := by decide +kernel
theorem dX0_tryOnePrice_11 : decode cX0_tryOnePrice 11 = .ok (.aload_n 0, 1) := by decide +kernel
theorem dX0_tryOnePrice_12 : decode cX0_tryOnePrice 12 = .ok (.getfield 59, 3) := by decide +kernel
theorem dX0_tryOnePrice_15 : decode cX0_tryOnePrice 15 = .ok (.if_icmp .ge 15, 3) := by decide +kernel
theorem dX0_tryOnePrice_18 : decode cX0_tryOnePrice 18 = .ok (.aload_n 0, 1) := by decide +kernel
theorem dX0_tryOnePrice_19 : decode cX0_tryOnePrice 19 = .ok (.iload_n 2, 1) := by decide +kernel
theorem dX0_tryOnePrice_20 : decode cX0_tryOnePrice 20 = .ok (.iload_n 1, 1) := by decide +kernel
theorem dX0_tryOnePrice_21 : decode cX0_tryOnePrice 21 = .ok (.invokevirtual 125, 3) := by decide +kernel
theorem dX0_tryOnePrice_24 : decode cX0_tryOnePrice 24 = .ok (.iinc 2 1, 3) := by decide +kernel
theorem dX0_tryOnePrice_27 : decode cX0_tryOnePrice 27 = .ok (.goto (-17), 3) := by decide +kernel
theorem dX0_tryOnePrice_30 : decode cX0_tryOnePrice 30 = .ok (.iconst 0, 1) := by decide +kernel
theorem dX0_tryOnePrice_31 : decode cX0_tryOnePrice 31 = .ok (.istore_n 2, 1) := by decide +kernel
theorem dX0_tryOnePrice_32 : decode cX0_tryOnePrice 32 = .ok (.iconst 0, 1) := by decide +kernel
theorem dX0_tryOnePrice_33 : decode cX0_tryOnePrice 33 = .ok (.istore_n 3, 1) := by decide +kernel
theorem dX0_tryOnePrice_34 : decode cX0_tryOnePrice 34 = .ok (.iload_n 3, 1) := by decide +kernel
theorem dX0_tryOnePrice_35 : decode cX0_tryOnePrice 35 = .ok (.aload_n 0, 1) := by decide +kernel
theorem dX0_tryOnePrice_36 : decode cX0_tryOnePrice 36 = .ok (.getfield 41, 3) := by decide +kernel
theorem dX0_tryOnePrice_39 : decode cX0_tryOnePrice 39 = .ok (.getfield 112, 3) := by decide +kernel
theorem dX0_tryOnePrice_42 : decode cX0_tryOnePrice 42 = .ok (.if_icmp .ge 33, 3) := by decide +kernel
theorem dX0_tryOnePrice_45 : decode cX0_tryOnePrice 45 = .ok (.iload_n 2, 1) := by decide +kernel
theorem dX0_tryOnePrice_46 : decode cX0_tryOnePrice 46 = .ok (.aload_n 0, 1) := by decide +kernel
theorem dX0_tryOnePrice_47 : decode cX0_tryOnePrice 47 = .ok (.getfield 41, 3) := by decide +kernel
theorem dX0_tryOnePrice_50 : decode cX0_tryOnePrice 50 = .ok (.getfield 129, 3) := by decide +kernel
theorem dX0_tryOnePrice_53 : decode cX0_tryOnePrice 53 = .ok (.iload_n 3, 1) := by decide +kernel
theorem dX0_tryOnePrice_54 : decode cX0_tryOnePrice 54 = .ok (.iaload, 1) := by decide +kernel
theorem dX0_tryOnePrice_55 : decode cX0_tryOnePrice 55 = .ok (.aload_n 0, 1) := by decide +kernel
theorem dX0_tryOnePrice_56 : decode cX0_tryOnePrice 56 = .ok (.getfield 32, 3) := by decide +kernel
theorem dX0_tryOnePrice_59 : decode cX0_tryOnePrice 59 = .ok (.aload_n 0, 1) := by decide +kernel
theorem dX0_tryOnePrice_60 : decode cX0_tryOnePrice 60 = .ok (.getfield 59, 3) := by decide +kernel
theorem dX0_tryOnePrice_63 : decode cX0_tryOnePrice 63 = .ok (.aaload, 1) := by decide +kernel
theorem dX0_tryOnePrice_64 : decode cX0_tryOnePrice 64 = .ok (.iload_n 3, 1) := by decide +kernel
theorem dX0_tryOnePrice_65 : decode cX0_tryOnePrice 65 = .ok (.iaload, 1) := by decide +kernel
theorem dX0_tryOnePrice_66 : decode cX0_tryOnePrice 66 = .ok (.imul, 1) := by decide +kernel
theorem dX0_tryOnePrice_67 : decode cX0_tryOnePrice 67 = .ok (.iadd, 1) := by decide +kernel
theorem dX0_tryOnePrice_68 : decode cX0_tryOnePrice 68 = .ok (.istore_n 2, 1) := by decide +kernel
theorem dX0_tryOnePrice_69 : decode cX0_tryOnePrice 69 = .ok (.iinc 3 1, 3) := by decide +kernel
theorem dX0_tryOnePrice_72 : decode cX0_tryOnePrice 72 = .ok (.goto (-38), 3) := by decide +kernel
theorem dX0_tryOnePrice_75 : decode cX0_tryOnePrice 75 = .ok (.aload_n 0, 1) := by decide +kernel
theorem dX0_tryOnePrice_76 : decode cX0_tryOnePrice 76 = .ok (.iload_n 2, 1) := by decide +kernel
theorem dX0_tryOnePrice_77 : decode cX0_tryOnePrice 77 = .ok (.invokevirtual 132, 3) := by decide +kernel
theorem dX0_tryOnePrice_80 : decode cX0_tryOnePrice 80 = .ok (.iinc 1 1, 3) := by decide +kernel
theorem dX0_tryOnePrice_83 : decode cX0_tryOnePrice 83 = .ok (.goto (-81), 3) := by decide +kernel
theorem dX0_tryOnePrice_86 : decode cX0_tryOnePrice 86 = .ok (.return_, 1) := by decide +kernel
theorem dX0_tryLastPrice_0 : decode cX0_tryLastPrice 0 = .ok (.iconst 0, 1) := by decide +kernel
theorem dX0_tryLastPrice_1 : decode cX0_tryLastPrice 1 = .ok (.istore_n 2, 1) := by decide +kernel
theorem dX0_tryLastPrice_2 : decode cX0_tryLastPrice 2 = .ok (.iload_n 2, 1) := by decide +kernel
theorem dX0_tryLastPrice_3 : decode cX0_tryLastPrice 3 = .ok (.bipush 9, 2) := by decide +kernel
theorem dX0_tryLastPrice_5 : decode cX0_tryLastPrice 5 = .ok (.if_icmp .gt 23, 3) := by decide +kernel
theorem dX0_tryLastPrice_8 : decode cX0_tryLastPrice 8 = .ok (.aload_n 0, 1) := by decide +kernel
theorem dX0_tryLastPrice_9 : decode cX0_tryLastPrice 9 = .ok (.getfield 35, 3) := by decide +kernel
theorem dX0_tryLastPrice_12 : decode cX0_tryLastPrice 12 = .ok (.iload_n 2, 1) := by decide +kernel
theorem dX0_tryLastPrice_13 : decode cX0_tryLastPrice 13 = .ok (.iconst 0, 1) := by decide +kernel
theorem dX0_tryLastPrice_14 : decode cX0_tryLastPrice 14 = .ok (.iastore, 1) := by decide +kernel
theorem dX0_tryLastPrice_15 : decode cX0_tryLastPrice 15 = .ok (.aload_n 0, 1) := by decide +kernel
theorem dX0_tryLastPrice_16 : decode cX0_tryLastPrice 16 = .ok (.getfield 38, 3) := by decide +kernel
theorem dX0_tryLastPrice_19 : decode cX0_tryLastPrice 19 = .ok (.iload_n 2, 1) := by decide +kernel
theorem dX0_tryLastPrice_20 : decode cX0_tryLastPrice 20 = .ok (.iconst 0, 1) := by decide +kernel
theorem dX0_tryLastPrice_21 : decode cX0_tryLastPrice 21 = .ok (.iastore, 1) := by decide +kernel
theorem dX0_tryLastPrice_22 : decode cX0_tryLastPrice 22 = .ok (.iinc 2 1, 3) := by decide +kernel
theorem dX0_tryLastPrice_25 : decode cX0_tryLastPrice 25 = .ok (.goto (-23), 3) := by decide +kernel
theorem dX0_tryLastPrice_28 : decode cX0_tryLastPrice 28 = .ok (.iconst 0, 1) := by decide +kernel
theorem dX0_tryLastPrice_29 : decode cX0_tryLastPrice 29 = .ok (.istore_n 2, 1) := by decide +kernel
theorem dX0_tryLastPrice_30 : decode cX0_tryLastPrice 30 = .ok (.iconst 0, 1) := by decide +kernel
theorem dX0_tryLastPrice_31 : decode cX0_tryLastPrice 31 = .ok (.istore_n 3, 1) := by decide +kernel
theorem dX0_tryLastPrice_32 : decode cX0_tryLastPrice 32 = .ok (.iconst 0, 1) := by decide +kernel
theorem dX0_tryLastPrice_33 : decode cX0_tryLastPrice 33 = .ok (.istore 4, 2) := by decide +kernel
theorem dX0_tryLastPrice_35 : decode cX0_tryLastPrice 35 = .ok (.iload 4, 2) := by decide +kernel
theorem dX0_tryLastPrice_37 : decode cX0_tryLastPrice 37 = .ok (.aload_n 0, 1) := by decide +kernel
theorem dX0_tryLastPrice_38 : decode cX0_tryLastPrice 38 = .ok (.getfield 41, 3) := by decide +kernel
theorem dX0_tryLastPrice_41 : decode cX0_tryLastPrice 41 = .ok (.getfield 112, 3) := by decide +kernel
theorem dX0_tryLastPrice_44 : decode cX0_tryLastPrice 44 = .ok (.if_icmp .ge 103, 3) := by decide +kernel
theorem dX0_tryLastPrice_47 : decode cX0_tryLastPrice 47 = .ok (.aload_n 0, 1) := by decide +kernel
theorem dX0_tryLastPrice_48 : decode cX0_tryLastPrice 48 = .ok (.getfield 41, 3) := by decide +kernel
theorem dX0_tryLastPrice_51 : decode cX0_tryLastPrice 51 = .ok (.getfield 129, 3) := by decide +kernel
theorem dX0_tryLastPrice_54 : decode cX0_tryLastPrice 54 = .ok (.iload 4, 2) := by decide +kernel
theorem dX0_tryLastPrice_56 : decode cX0_tryLastPrice 56 = .ok (.iaload, 1) := by decide +kernel
theorem dX0_tryLastPrice_57 : decode cX0_tryLastPrice 57 = .ok (.aload_n 0, 1) := by decide +kernel
theorem dX0_tryLastPrice_58 : decode cX0_tryLastPrice 58 = .ok (.getfield 32, 3) := by decide +kernel
theorem dX0_tryLastPrice_61 : decode cX0_tryLastPrice 61 = .ok (.iload_n 1, 1) := by decide +kernel
theorem dX0_tryLastPrice_62 : decode cX0_tryLastPrice 62 = .ok (.aaload, 1) := by decide +kernel
theorem dX0_tryLastPrice_63 : decode cX0_tryLastPrice 63 = .ok (.iload 4, 2) := by decide +kernel
theorem dX0_tryLastPrice_65 : decode cX0_tryLastPrice 65 = .ok (.iaload, 1) := by decide +kernel
theorem dX0_tryLastPrice_66 : decode cX0_tryLastPrice 66 = .ok (.imul, 1) := by decide +kernel
theorem dX0_tryLastPrice_67 : decode cX0_tryLastPrice 67 = .ok (.istore 5, 2) := by decide +kernel
theorem dX0_tryLastPrice_69 : decode cX0_tryLastPrice 69 = .ok (.bipush 9, 2) := by decide +kernel
theorem dX0_tryLastPrice_71 : decode cX0_tryLastPrice 71 = .ok (.aload_n 0, 1) := by decide +kernel
theorem dX0_tryLastPrice_72 : decode cX0_tryLastPrice 72 = .ok (.iload_n 1, 1) := by decide +kernel
theorem dX0_tryLastPrice_73 : decode cX0_tryLastPrice 73 = .ok (.iload 4, 2) := by decide +kernel
theorem dX0_tryLastPrice_75 : decode cX0_tryLastPrice 75 = .ok (.invokevirtual 138, 3) := by decide +kernel
theorem dX0_tryLastPrice_78 : decode cX0_tryLastPrice 78 = .ok (.invokestatic 144, 3) := by decide +kernel
theorem dX0_tryLastPrice_81 : decode cX0_tryLastPrice 81 = .ok (.istore 6, 2) := by decide +kernel
theorem dX0_tryLastPrice_83 : decode cX0_tryLastPrice 83 = .ok (.iload 6, 2) := by decide +kernel
theorem dX0_tryLastPrice_85 : decode cX0_tryLastPrice 85 = .ok (.ifCond .ge 11, 3) := by decide +kernel
theorem dX0_tryLastPrice_88 : decode cX0_tryLastPrice 88 = .ok (.iload_n 3, 1) := by decide +kernel
theorem dX0_tryLastPrice_89 : decode cX0_tryLastPrice 89 = .ok (.iload 5, 2) := by decide +kernel
theorem dX0_tryLastPrice_91 : decode cX0_tryLastPrice 91 = .ok (.iadd, 1) := by decide +kernel
theorem dX0_tryLastPrice_92 : decode cX0_tryLastPrice 92 = .ok (.istore_n 3, 1) := by decide +kernel
theorem dX0_tryLastPrice_93 : decode cX0_tryLastPrice 93 = .ok (.goto 48, 3) := by decide +kernel
theorem dX0_tryLastPrice_96 : decode cX0_tryLastPrice 96 = .ok (.iload_n 2, 1) := by decide +kernel
theorem dX0_tryLastPrice_97 : decode cX0_tryLastPrice 97 = .ok (.aload_n 0, 1) := by decide +kernel
theorem dX0_tryLastPrice_98 : decode cX0_tryLastPrice 98 = .ok (.getfield 41, 3) := by decide +kernel
theorem dX0_tryLastPrice_101 : decode cX0_tryLastPrice 101 = .ok (.getfield 129, 3) := by decide +kernel
theorem dX0_tryLastPrice_104 : decode cX0_tryLastPrice 104 = .ok (.iload 4, 2) := by decide +kernel
theorem dX0_tryLastPrice_106 : decode cX0_tryLastPrice 106 = .ok (.iaload, 1) := by decide +kernel
theorem dX0_tryLastPrice_107 : decode cX0_tryLastPrice 107 = .ok (.iadd, 1) := by decide +kernel
theorem dX0_tryLastPrice_108 : decode cX0_tryLastPrice 108 = .ok (.istore_n 2, 1) := by decide +kernel
theorem dX0_tryLastPrice_109 : decode cX0_tryLastPrice 109 = .ok (.aload_n 0, 1) := by decide +kernel
theorem dX0_tryLastPrice_110 : decode cX0_tryLastPrice 110 = .ok (.getfield 35, 3) := by decide +kernel
theorem dX0_tryLastPrice_113 : decode cX0_tryLastPrice 113 = .ok (.iload 6, 2) := by decide +kernel
theorem dX0_tryLastPrice_115 : decode cX0_tryLastPrice 115 = .ok (.dup2, 1) := by decide +kernel
theorem dX0_tryLastPrice_116 : decode cX0_tryLastPrice 116 = .ok (.iaload, 1) := by decide +kernel
theorem dX0_tryLastPrice_117 : decode cX0_tryLastPrice 117 = .ok (.aload_n 0, 1) := by decide +kernel
theorem dX0_tryLastPrice_118 : decode cX0_tryLastPrice 118 = .ok (.getfield 41, 3) := by decide +kernel
theorem dX0_tryLastPrice_121 : decode cX0_tryLastPrice 121 = .ok (.getfield 129, 3) := by decide +kernel
theorem dX0_tryLastPrice_124 : decode cX0_tryLastPrice 124 = .ok (.iload 4, 2) := by decide +kernel
theorem dX0_tryLastPrice_126 : decode cX0_tryLastPrice 126 = .ok (.iaload, 1) := by decide +kernel
theorem dX0_tryLastPrice_127 : decode cX0_tryLastPrice 127 = .ok (.iadd, 1) := by decide +kernel
theorem dX0_tryLastPrice_128 : decode cX0_tryLastPrice 128 = .ok (.iastore, 1) := by decide +kernel
theorem dX0_tryLastPrice_129 : decode cX0_tryLastPrice 129 = .ok (.aload_n 0, 1) := by decide +kernel
theorem dX0_tryLastPrice_130 : decode cX0_tryLastPrice 130 = .ok (.getfield 38, 3) := by decide +kernel
theorem dX0_tryLastPrice_133 : decode cX0_tryLastPrice 133 = .ok (.iload 6, 2) := by decide +kernel
theorem dX0_tryLastPrice_135 : decode cX0_tryLastPrice 135 = .ok (.dup2, 1) := by decide +kernel
theorem dX0_tryLastPrice_136 : decode cX0_tryLastPrice 136 = .ok (.iaload, 1) := by decide +kernel
theorem dX0_tryLastPrice_137 : decode cX0_tryLastPrice 137 = .ok (.iload 5, 2) := by decide +kernel
theorem dX0_tryLastPrice_139 : decode cX0_tryLastPrice 139 = .ok (.iadd, 1) := by decide +kernel
theorem dX0_tryLastPrice_140 : decode cX0_tryLastPrice 140 = .ok (.iastore, 1) := by decide +kernel
theorem dX0_tryLastPrice_141 : decode cX0_tryLastPrice 141 = .ok (.iinc 4 1, 3) := by decide +kernel
theorem dX0_tryLastPrice_144 : decode cX0_tryLastPrice 144 = .ok (.goto (-109), 3) := by decide +kernel
theorem dX0_tryLastPrice_147 : decode cX0_tryLastPrice 147 = .ok (.iconst 0, 1) := by decide +kernel
theorem dX0_tryLastPrice_148 : decode cX0_tryLastPrice 148 = .ok (.istore 4, 2) := by decide +kernel
theorem dX0_tryLastPrice_150 : decode cX0_tryLastPrice 150 = .ok (.iload 4, 2) := by decide +kernel
theorem dX0_tryLastPrice_152 : decode cX0_tryLastPrice 152 = .ok (.bipush 9, 2) := by decide +kernel
theorem dX0_tryLastPrice_154 : decode cX0_tryLastPrice 154 = .ok (.if_icmp .gt 54, 3) := by decide +kernel
theorem dX0_tryLastPrice_157 : decode cX0_tryLastPrice 157 = .ok (.aload_n 0, 1) := by decide +kernel
theorem dX0_tryLastPrice_158 : decode cX0_tryLastPrice 158 = .ok (.getfield 18, 3) := by decide +kernel
theorem dX0_tryLastPrice_161 : decode cX0_tryLastPrice 161 = .ok (.iload_n 1, 1) := by decide +kernel
theorem dX0_tryLastPrice_162 : decode cX0_tryLastPrice 162 = .ok (.iload 4, 2) := by decide +kernel
theorem dX0_tryLastPrice_164 : decode cX0_tryLastPrice 164 = .ok (.iastore, 1) := by decide +kernel
theorem dX0_tryLastPrice_165 : decode cX0_tryLastPrice 165 = .ok (.aload_n 0, 1) := by decide +kernel
theorem dX0_tryLastPrice_166 : decode cX0_tryLastPrice 166 = .ok (.iload_n 3, 1) := by decide +kernel
theorem dX0_tryLastPrice_167 : decode cX0_tryLastPrice 167 = .ok (.iload_n 2, 1) := by decide +kernel
theorem dX0_tryLastPrice_168 : decode cX0_tryLastPrice 168 = .ok (.iload 4, 2) := by decide +kernel
theorem dX0_tryLastPrice_170 : decode cX0_tryLastPrice 170 = .ok (.aload_n 0, 1) := by decide +kernel
theorem dX0_tryLastPrice_171 : decode cX0_tryLastPrice 171 = .ok (.getfield 15, 3) := by decide +kernel
theorem dX0_tryLastPrice_174 : decode cX0_tryLastPrice 174 = .ok (.iload_n 1, 1) := by decide +kernel
theorem dX0_tryLastPrice_175 : decode cX0_tryLastPrice 175 = .ok (.iaload, 1) := by decide +kernel
theorem dX0_tryLastPrice_176 : decode cX0_tryLastPrice 176 = .ok (.isub, 1) := by decide +kernel
theorem dX0_tryLastPrice_177 : decode cX0_tryLastPrice 177 = .ok (.imul, 1) := by decide +kernel
theorem dX0_tryLastPrice_178 : decode cX0_tryLastPrice 178 = .ok (.iadd, 1) := by decide +kernel
theorem dX0_tryLastPrice_179 : decode cX0_tryLastPrice 179 = .ok (.invokevirtual 132, 3) := by decide +kernel
theorem dX0_tryLastPrice_182 : decode cX0_tryLastPrice 182 = .ok (.iload_n 2, 1) := by decide +kernel
theorem dX0_tryLastPrice_183 : decode cX0_tryLastPrice 183 = .ok (.aload_n 0, 1) := by decide +kernel
theorem dX0_tryLastPrice_184 : decode cX0_tryLastPrice 184 = .ok (.getfield 35, 3) := by decide +kernel
theorem dX0_tryLastPrice_187 : decode cX0_tryLastPrice 187 = .ok (.iload 4, 2) := by decide +kernel
theorem dX0_tryLastPrice_189 : decode cX0_tryLastPrice 189 = .ok (.iaload, 1) := by decide +kernel
theorem dX0_tryLastPrice_190 : decode cX0_tryLastPrice 190 = .ok (.isub, 1) := by decide +kernel
theorem dX0_tryLastPrice_191 : decode cX0_tryLastPrice 191 = .ok (.istore_n 2, 1) := by decide +kernel
theorem dX0_tryLastPrice_192 : decode cX0_tryLastPrice 192 = .ok (.iload_n 3, 1) := by decide +kernel
theorem dX0_tryLastPrice_193 : decode cX0_tryLastPrice 193 = .ok (.aload_n 0, 1) := by decide +kernel
theorem dX0_tryLastPrice_194 : decode cX0_tryLastPrice 194 = .ok (.getfield 38, 3) := by decide +kernel
theorem dX0_tryLastPrice_197 : decode cX0_tryLastPrice 197 = .ok (.iload 4, 2) := by decide +kernel
theorem dX0_tryLastPrice_199 : decode cX0_tryLastPrice 199 = .ok (.iaload, 1) := by decide +kernel
theorem dX0_tryLastPrice_200 : decode cX0_tryLastPrice 200 = .ok (.iadd, 1) := by decide +kernel
theorem dX0_tryLastPrice_201 : decode cX0_tryLastPrice 201 = .ok (.istore_n 3, 1) := by decide +kernel
theorem dX0_tryLastPrice_202 : decode cX0_tryLastPrice 202 = .ok (.iinc 4 1, 3) := by decide +kernel
theorem dX0_tryLastPrice_205 : decode cX0_tryLastPrice 205 = .ok (.goto (-55), 3) := by decide +kernel
theorem dX0_tryLastPrice_208 : decode cX0_tryLastPrice 208 = .ok (.return_, 1) := by decide +kernel
theorem dX0_tryPrices_0 : decode cX0_tryPrices 0 = .ok (.iload_n 1, 1) := by decide +kernel
theorem dX0_tryPrices_1 : decode cX0_tryPrices 1 = .ok (.aload_n 0, 1) := by decide +kernel
theorem dX0_tryPrices_2 : decode cX0_tryPrices 2 = .ok (.getfield 59, 3) := by decide +kernel
theorem dX0_tryPrices_5 : decode cX0_tryPrices 5 = .ok (.iconst 1, 1) := by decide +kernel
theorem dX0_tryPrices_6 : decode cX0_tryPrices 6 = .ok (.isub, 1) := by decide +kernel
theorem dX0_tryPrices_7 : decode cX0_tryPrices 7 = .ok (.if_icmp .lt 14, 3) := by decide +kernel
theorem dX0_tryPrices_10 : decode cX0_tryPrices 10 = .ok (.aload_n 0, 1) := by decide +kernel
theorem dX0_tryPrices_11 : decode cX0_tryPrices 11 = .ok (.aload_n 0, 1) := by decide +kernel
theorem dX0_tryPrices_12 : decode cX0_tryPrices 12 = .ok (.getfield 59, 3) := by decide +kernel
theorem dX0_tryPrices_15 : decode cX0_tryPrices 15 = .ok (.iconst 1, 1) := by decide +kernel
theorem dX0_tryPrices_16 : decode cX0_tryPrices 16 = .ok (.isub, 1) := by decide +kernel
theorem dX0_tryPrices_17 : decode cX0_tryPrices 17 = .ok (.invokevirtual 135, 3) := by decide +kernel
theorem dX0_tryPrices_20 : decode cX0_tryPrices 20 = .ok (.return_, 1) := by decide +kernel
theorem dX0_tryPrices_21 : decode cX0_tryPrices 21 = .ok (.iconst 0, 1) := by decide +kernel
theorem dX0_tryPrices_22 : decode cX0_tryPrices 22 = .ok (.istore_n 2, 1) := by decide +kernel
theorem dX0_tryPrices_23 : decode cX0_tryPrices 23 = .ok (.iload_n 2, 1) := by decide +kernel
theorem dX0_tryPrices_24 : decode cX0_tryPrices 24 = .ok (.bipush 9, 2) := by decide +kernel
theorem dX0_tryPrices_26 : decode cX0_tryPrices 26 = .ok (.if_icmp .gt 22, 3) := by decide +kernel
theorem dX0_tryPrices_29 : decode cX0_tryPrices 29 = .ok (.aload_n 0, 1) := by decide +kernel
theorem dX0_tryPrices_30 : decode cX0_tryPrices 30 = .ok (.iload_n 1, 1) := by decide +kernel
theorem dX0_tryPrices_31 : decode cX0_tryPrices 31 = .ok (.iload_n 2, 1) := by decide +kernel
theorem dX0_tryPrices_32 : decode cX0_tryPrices 32 = .ok (.invokevirtual 125, 3) := by decide +kernel
theorem dX0_tryPrices_35 : decode cX0_tryPrices 35 = .ok (.aload_n 0, 1) := by decide +kernel
theorem dX0_tryPrices_36 : decode cX0_tryPrices 36 = .ok (.iload_n 1, 1) := by decide +kernel
theorem dX0_tryPrices_37 : decode cX0_tryPrices 37 = .ok (.iconst 1, 1) := by decide +kernel
theorem dX0_tryPrices_38 : decode cX0_tryPrices 38 = .ok (.iadd, 1) := by decide +kernel
theorem dX0_tryPrices_39 : decode cX0_tryPrices 39 = .ok (.invokevirtual 95, 3) := by decide +kernel
theorem dX0_tryPrices_42 : decode cX0_tryPrices 42 = .ok (.iinc 2 1, 3) := by decide +kernel
theorem dX0_tryPrices_45 : decode cX0_tryPrices 45 = .ok (.goto (-22), 3) := by decide +kernel
theorem dX0_tryPrices_48 : decode cX0_tryPrices 48 = .ok (.return_, 1) := by decide +kernel
theorem dX0_look_0 : decode cX0_look 0 = .ok (.aload_n 0, 1) := by decide +kernel
theorem dX0_look_1 : decode cX0_look 1 = .ok (.aload_n 1, 1) := by decide +kernel
theorem dX0_look_2 : decode cX0_look 2 = .ok (.iload_n 2, 1) := by decide +kernel
theorem dX0_look_3 : decode cX0_look 3 = .ok (.invokevirtual 75, 3) := by decide +kernel
theorem dX0_look_6 : decode cX0_look 6 = .ok (.aload_n 0, 1) := by decide +kernel
theorem dX0_look_7 : decode cX0_look 7 = .ok (.getfield 41, 3) := by decide +kernel
theorem dX0_look_10 : decode cX0_look 10 = .ok (.getfield 78, 3) := by decide +kernel
theorem dX0_look_13 : decode cX0_look 13 = .ok (.iload_n 2, 1) := by decide +kernel
theorem dX0_look_14 : decode cX0_look 14 = .ok (.iaload, 1) := by decide +kernel
theorem dX0_look_15 : decode cX0_look 15 = .ok (.istore_n 3, 1) := by decide +kernel
theorem dX0_look_16 : decode cX0_look 16 = .ok (.aload_n 0, 1) := by decide +kernel
theorem dX0_look_17 : decode cX0_look 17 = .ok (.iconst 0, 1) := by decide +kernel
theorem dX0_look_18 : decode cX0_look 18 = .ok (.putfield 71, 3) := by decide +kernel
theorem dX0_look_21 : decode cX0_look 21 = .ok (.iload_n 3, 1) := by decide +kernel
theorem dX0_look_22 : decode cX0_look 22 = .ok (.iconst 2, 1) := by decide +kernel
theorem dX0_look_23 : decode cX0_look 23 = .ok (.if_icmp .ne 13, 3) := by decide +kernel
theorem dX0_look_26 : decode cX0_look 26 = .ok (.aload_n 0, 1) := by decide +kernel
theorem dX0_look_27 : decode cX0_look 27 = .ok (.aload_n 1, 1) := by decide +kernel
theorem dX0_look_28 : decode cX0_look 28 = .ok (.iload_n 2, 1) := by decide +kernel
theorem dX0_look_29 : decode cX0_look 29 = .ok (.invokevirtual 81, 3) := by decide +kernel
theorem dX0_look_32 : decode cX0_look 32 = .ok (.putfield 85, 3) := by decide +kernel
theorem dX0_look_35 : decode cX0_look 35 = .ok (.return_, 1) := by decide +kernel
theorem dX0_look_36 : decode cX0_look 36 = .ok (.aload_n 0, 1) := by decide +kernel
theorem dX0_look_37 : decode cX0_look 37 = .ok (.iconst 0, 1) := by decide +kernel
theorem dX0_look_38 : decode cX0_look 38 = .ok (.putfield 85, 3) := by decide +kernel
theorem dX0_look_41 : decode cX0_look 41 = .ok (.aload_n 0, 1) := by decide +kernel
theorem dX0_look_42 : decode cX0_look 42 = .ok (.getfield 59, 3) := by decide +kernel
theorem dX0_look_45 : decode cX0_look 45 = .ok (.ifCond .le 37, 3) := by decide +kernel
theorem dX0_look_48 : decode cX0_look 48 = .ok (.aload_n 0, 1) := by decide +kernel
theorem dX0_look_49 : decode cX0_look 49 = .ok (.ldc 88, 2) := by decide +kernel
theorem dX0_look_51 : decode cX0_look 51 = .ok (.putfield 85, 3) := by decide +kernel
theorem dX0_look_54 : decode cX0_look 54 = .ok (.aload_n 0, 1) := by decide +kernel
theorem dX0_look_55 : decode cX0_look 55 = .ok (.aload_n 1, 1) := by decide +kernel
theorem dX0_look_56 : decode cX0_look 56 = .ok (.iload_n 2, 1) := by decide +kernel
theorem dX0_look_57 : decode cX0_look 57 = .ok (.invokevirtual 89, 3) := by decide +kernel
theorem dX0_look_60 : decode cX0_look 60 = .ok (.iload_n 3, 1) := by decide +kernel
theorem dX0_look_61 : decode cX0_look 61 = .ok (.iconst 1, 1) := by decide +kernel
theorem dX0_look_62 : decode cX0_look 62 = .ok (.if_icmp .eq 8, 3) := by decide +kernel
theorem dX0_look_65 : decode cX0_look 65 = .ok (.iload_n 3, 1) := by decide +kernel
theorem dX0_look_66 : decode cX0_look 66 = .ok (.iconst 4, 1) := by decide +kernel
theorem dX0_look_67 : decode cX0_look 67 = .ok (.if_icmp .ne 10, 3) := by decide +kernel
theorem dX0_look_70 : decode cX0_look 70 = .ok (.aload_n 0, 1) := by decide +kernel
theorem dX0_look_71 : decode cX0_look 71 = .ok (.invokevirtual 92, 3) := by decide +kernel
theorem dX0_look_74 : decode cX0_look 74 = .ok (.goto 8, 3) := by decide +kernel
theorem dX0_look_77 : decode cX0_look 77 = .ok (.aload_n 0, 1) := by decide +kernel
theorem dX0_look_78 : decode cX0_look 78 = .ok (.iconst 0, 1) := by decide +kernel
theorem dX0_look_79 : decode cX0_look 79 = .ok (.invokevirtual 95, 3) := by decide +kernel
theorem dX0_look_82 : decode cX0_look 82 = .ok (.iload_n 3, 1) := by decide +kernel
theorem dX0_look_83 : decode cX0_look 83 = .ok (.iconst 4, 1) := by decide +kernel
theorem dX0_look_84 : decode cX0_look 84 = .ok (.if_icmp .ne 46, 3) := by decide +kernel
theorem dX0_look_87 : decode cX0_look 87 = .ok (.aload_n 0, 1) := by decide +kernel
theorem dX0_look_88 : decode cX0_look 88 = .ok (.aload_n 0, 1) := by decide +kernel
theorem dX0_look_89 : decode cX0_look 89 = .ok (.getfield 85, 3) := by decide +kernel
theorem dX0_look_92 : decode cX0_look 92 = .ok (.aload_n 0, 1) := by decide +kernel
theorem dX0_look_93 : decode cX0_look 93 = .ok (.getfield 41, 3) := by decide +kernel
theorem dX0_look_96 : decode cX0_look 96 = .ok (.getfield 99, 3) := by decide +kernel
theorem dX0_look_99 : decode cX0_look 99 = .ok (.iload_n 2, 1) := by decide +kernel
theorem dX0_look_100 : decode cX0_look 100 = .ok (.iaload, 1) := by decide +kernel
theorem dX0_look_101 : decode cX0_look 101 = .ok (.if_icmp .le 7, 3) := by decide +kernel
theorem dX0_look_104 : decode cX0_look 104 = .ok (.iconst 1, 1) := by decide +kernel
theorem dX0_look_105 : decode cX0_look 105 = .ok (.goto 4, 3) := by decide +kernel
theorem dX0_look_108 : decode cX0_look 108 = .ok (.iconst 0, 1) := by decide +kernel
theorem dX0_look_109 : decode cX0_look 109 = .ok (.putfield 71, 3) := by decide +kernel
theorem dX0_look_112 : decode cX0_look 112 = .ok (.aload_n 0, 1) := by decide +kernel
theorem dX0_look_113 : decode cX0_look 113 = .ok (.getfield 71, 3) := by decide +kernel
theorem dX0_look_116 : decode cX0_look 116 = .ok (.ifCond .ne 14, 3) := by decide +kernel
theorem dX0_look_119 : decode cX0_look 119 = .ok (.aload_n 0, 1) := by decide +kernel
theorem dX0_look_120 : decode cX0_look 120 = .ok (.aload_n 1, 1) := by decide +kernel
theorem dX0_look_121 : decode cX0_look 121 = .ok (.iload_n 2, 1) := by decide +kernel
theorem dX0_look_122 : decode cX0_look 122 = .ok (.invokevirtual 75, 3) := by decide +kernel
theorem dX0_look_125 : decode cX0_look 125 = .ok (.aload_n 0, 1) := by decide +kernel
theorem dX0_look_126 : decode cX0_look 126 = .ok (.iconst 0, 1) := by decide +kernel
theorem dX0_look_127 : decode cX0_look 127 = .ok (.putfield 85, 3) := by decide +kernel
theorem dX0_look_130 : decode cX0_look 130 = .ok (.return_, 1) := by decide +kernel
theorem dX0_take_0 : decode cX0_take 0 = .ok (.iconst 0, 1) := by decide +kernel
theorem dX0_take_1 : decode cX0_take 1 = .ok (.istore_n 3, 1) := by decide +kernel
theorem dX0_take_2 : decode cX0_take 2 = .ok (.iconst 0, 1) := by decide +kernel
theorem dX0_take_3 : decode cX0_take 3 = .ok (.istore 4, 2) := by decide +kernel
theorem dX0_take_5 : decode cX0_take 5 = .ok (.iload 4, 2) := by decide +kernel
theorem dX0_take_7 : decode cX0_take 7 = .ok (.aload_n 0, 1) := by decide +kernel
theorem dX0_take_8 : decode cX0_take 8 = .ok (.getfield 59, 3) := by decide +kernel
theorem dX0_take_11 : decode cX0_take 11 = .ok (.if_icmp .ge 53, 3) := by decide +kernel
theorem dX0_take_14 : decode cX0_take 14 = .ok (.aload_n 1, 1) := by decide +kernel
theorem dX0_take_15 : decode cX0_take 15 = .ok (.getfield 62, 3) := by decide +kernel
theorem dX0_take_18 : decode cX0_take 18 = .ok (.aload_n 0, 1) := by decide +kernel
theorem dX0_take_19 : decode cX0_take 19 = .ok (.getfield 9, 3) := by decide +kernel
theorem dX0_take_22 : decode cX0_take 22 = .ok (.iload 4, 2) := by decide +kernel
theorem dX0_take_24 : decode cX0_take 24 = .ok (.iaload, 1) := by decide +kernel
theorem dX0_take_25 : decode cX0_take 25 = .ok (.iaload, 1) := by decide +kernel
theorem dX0_take_26 : decode cX0_take 26 = .ok (.aload_n 0, 1) := by decide +kernel
theorem dX0_take_27 : decode cX0_take 27 = .ok (.getfield 21, 3) := by decide +kernel
theorem dX0_take_30 : decode cX0_take 30 = .ok (.iload 4, 2) := by decide +kernel
theorem dX0_take_32 : decode cX0_take 32 = .ok (.iaload, 1) := by decide +kernel
theorem dX0_take_33 : decode cX0_take 33 = .ok (.if_icmp .eq 25, 3) := by decide +kernel
theorem dX0_take_36 : decode cX0_take 36 = .ok (.aload_n 1, 1) := by decide +kernel
theorem dX0_take_37 : decode cX0_take 37 = .ok (.getfield 62, 3) := by decide +kernel
theorem dX0_take_40 : decode cX0_take 40 = .ok (.aload_n 0, 1) := by decide +kernel
theorem dX0_take_41 : decode cX0_take 41 = .ok (.getfield 9, 3) := by decide +kernel
theorem dX0_take_44 : decode cX0_take 44 = .ok (.iload 4, 2) := by decide +kernel
theorem dX0_take_46 : decode cX0_take 46 = .ok (.iaload, 1) := by decide +kernel
theorem dX0_take_47 : decode cX0_take 47 = .ok (.aload_n 0, 1) := by decide +kernel
theorem dX0_take_48 : decode cX0_take 48 = .ok (.getfield 21, 3) := by decide +kernel
theorem dX0_take_51 : decode cX0_take 51 = .ok (.iload 4, 2) := by decide +kernel
theorem dX0_take_53 : decode cX0_take 53 = .ok (.iaload, 1) := by decide +kernel
theorem dX0_take_54 : decode cX0_take 54 = .ok (.iastore, 1) := by decide +kernel
theorem dX0_take_55 : decode cX0_take 55 = .ok (.iinc 3 1, 3) := by decide +kernel
theorem dX0_take_58 : decode cX0_take 58 = .ok (.iinc 4 1, 3) := by decide +kernel
theorem dX0_take_61 : decode cX0_take 61 = .ok (.goto (-56), 3) := by decide +kernel
theorem dX0_take_64 : decode cX0_take 64 = .ok (.aload_n 1, 1) := by decide +kernel
theorem dX0_take_65 : decode cX0_take 65 = .ok (.getfield 67, 3) := by decide +kernel
theorem dX0_take_68 : decode cX0_take 68 = .ok (.iload_n 2, 1) := by decide +kernel
theorem dX0_take_69 : decode cX0_take 69 = .ok (.baload, 1) := by decide +kernel
theorem dX0_take_70 : decode cX0_take 70 = .ok (.aload_n 0, 1) := by decide +kernel
theorem dX0_take_71 : decode cX0_take 71 = .ok (.getfield 71, 3) := by decide +kernel
theorem dX0_take_74 : decode cX0_take 74 = .ok (.if_icmp .eq 16, 3) := by decide +kernel
theorem dX0_take_77 : decode cX0_take 77 = .ok (.aload_n 1, 1) := by decide +kernel
theorem dX0_take_78 : decode cX0_take 78 = .ok (.getfield 67, 3) := by decide +kernel
theorem dX0_take_81 : decode cX0_take 81 = .ok (.iload_n 2, 1) := by decide +kernel
theorem dX0_take_82 : decode cX0_take 82 = .ok (.aload_n 0, 1) := by decide +kernel
theorem dX0_take_83 : decode cX0_take 83 = .ok (.getfield 71, 3) := by decide +kernel
theorem dX0_take_86 : decode cX0_take 86 = .ok (.bastore, 1) := by decide +kernel
theorem dX0_take_87 : decode cX0_take 87 = .ok (.iinc 3 1, 3) := by decide +kernel
theorem dX0_take_90 : decode cX0_take 90 = .ok (.iload_n 3, 1) := by decide +kernel
theorem dX0_take_91 : decode cX0_take 91 = .ok (.ireturn, 1) := by decide +kernel
theorem dX0_settle_0 : decode cX0_settle 0 = .ok (.iconst 0, 1) := by decide +kernel
theorem dX0_settle_1 : decode cX0_settle 1 = .ok (.istore_n 2, 1) := by decide +kernel
theorem dX0_settle_2 : decode cX0_settle 2 = .ok (.iload_n 2, 1) := by decide +kernel
theorem dX0_settle_3 : decode cX0_settle 3 = .ok (.bipush 20, 2) := by decide +kernel
theorem dX0_settle_5 : decode cX0_settle 5 = .ok (.if_icmp .ge 55, 3) := by decide +kernel
theorem dX0_settle_8 : decode cX0_settle 8 = .ok (.iconst 0, 1) := by decide +kernel
theorem dX0_settle_9 : decode cX0_settle 9 = .ok (.istore_n 3, 1) := by decide +kernel
theorem dX0_settle_10 : decode cX0_settle 10 = .ok (.iconst 0, 1) := by decide +kernel
theorem dX0_settle_11 : decode cX0_settle 11 = .ok (.istore 4, 2) := by decide +kernel
theorem dX0_settle_13 : decode cX0_settle 13 = .ok (.iload 4, 2) := by decide +kernel
theorem dX0_settle_15 : decode cX0_settle 15 = .ok (.aload_n 0, 1) := by decide +kernel
theorem dX0_settle_16 : decode cX0_settle 16 = .ok (.getfield 41, 3) := by decide +kernel
theorem dX0_settle_19 : decode cX0_settle 19 = .ok (.getfield 45, 3) := by decide +kernel
theorem dX0_settle_22 : decode cX0_settle 22 = .ok (.if_icmp .ge 26, 3) := by decide +kernel
theorem dX0_settle_25 : decode cX0_settle 25 = .ok (.aload_n 0, 1) := by decide +kernel
theorem dX0_settle_26 : decode cX0_settle 26 = .ok (.aload_n 1, 1) := by decide +kernel
theorem dX0_settle_27 : decode cX0_settle 27 = .ok (.iload 4, 2) := by decide +kernel
theorem dX0_settle_29 : decode cX0_settle 29 = .ok (.invokevirtual 51, 3) := by decide +kernel
theorem dX0_settle_32 : decode cX0_settle 32 = .ok (.iload_n 3, 1) := by decide +kernel
theorem dX0_settle_33 : decode cX0_settle 33 = .ok (.aload_n 0, 1) := by decide +kernel
theorem dX0_settle_34 : decode cX0_settle 34 = .ok (.aload_n 1, 1) := by decide +kernel
theorem dX0_settle_35 : decode cX0_settle 35 = .ok (.iload 4, 2) := by decide +kernel
theorem dX0_settle_37 : decode cX0_settle 37 = .ok (.invokevirtual 55, 3) := by decide +kernel
theorem dX0_settle_40 : decode cX0_settle 40 = .ok (.iadd, 1) := by decide +kernel
theorem dX0_settle_41 : decode cX0_settle 41 = .ok (.istore_n 3, 1) := by decide +kernel
theorem dX0_settle_42 : decode cX0_settle 42 = .ok (.iinc 4 1, 3) := by decide +kernel
theorem dX0_settle_45 : decode cX0_settle 45 = .ok (.goto (-32), 3) := by decide +kernel
theorem dX0_settle_48 : decode cX0_settle 48 = .ok (.iload_n 3, 1) := by decide +kernel
theorem dX0_settle_49 : decode cX0_settle 49 = .ok (.ifCond .ne 5, 3) := by decide +kernel
theorem dX0_settle_52 : decode cX0_settle 52 = .ok (.iload_n 2, 1) := by decide +kernel
theorem dX0_settle_53 : decode cX0_settle 53 = .ok (.ireturn, 1) := by decide +kernel
theorem dX0_settle_54 : decode cX0_settle 54 = .ok (.iinc 2 1, 3) := by decide +kernel
theorem dX0_settle_57 : decode cX0_settle 57 = .ok (.goto (-55), 3) := by decide +kernel
theorem dX0_settle_60 : decode cX0_settle 60 = .ok (.iconst (-1), 1) := by decide +kernel
theorem dX0_settle_61 : decode cX0_settle 61 = .ok (.ireturn, 1) := by decide +kernel
theorem dX0_priceOf_0 : decode cX0_priceOf 0 = .ok (.iconst 0, 1) := by decide +kernel
theorem dX0_priceOf_1 : decode cX0_priceOf 1 = .ok (.istore_n 2, 1) := by decide +kernel
theorem dX0_priceOf_2 : decode cX0_priceOf 2 = .ok (.iload_n 2, 1) := by decide +kernel
theorem dX0_priceOf_3 : decode cX0_priceOf 3 = .ok (.aload_n 0, 1) := by decide +kernel
theorem dX0_priceOf_4 : decode cX0_priceOf 4 = .ok (.getfield 59, 3) := by decide +kernel
theorem dX0_priceOf_7 : decode cX0_priceOf 7 = .ok (.if_icmp .ge 26, 3) := by decide +kernel
theorem dX0_priceOf_10 : decode cX0_priceOf 10 = .ok (.aload_n 0, 1) := by decide +kernel
theorem dX0_priceOf_11 : decode cX0_priceOf 11 = .ok (.getfield 9, 3) := by decide +kernel
theorem dX0_priceOf_14 : decode cX0_priceOf 14 = .ok (.iload_n 2, 1) := by decide +kernel
theorem dX0_priceOf_15 : decode cX0_priceOf 15 = .ok (.iaload, 1) := by decide +kernel
theorem dX0_priceOf_16 : decode cX0_priceOf 16 = .ok (.iload_n 1, 1) := by decide +kernel
theorem dX0_priceOf_17 : decode cX0_priceOf 17 = .ok (.if_icmp .ne 10, 3) := by decide +kernel
theorem dX0_priceOf_20 : decode cX0_priceOf 20 = .ok (.aload_n 0, 1) := by decide +kernel
theorem dX0_priceOf_21 : decode cX0_priceOf 21 = .ok (.getfield 21, 3) := by decide +kernel
theorem dX0_priceOf_24 : decode cX0_priceOf 24 = .ok (.iload_n 2, 1) := by decide +kernel
theorem dX0_priceOf_25 : decode cX0_priceOf 25 = .ok (.iaload, 1) := by decide +kernel
theorem dX0_priceOf_26 : decode cX0_priceOf 26 = .ok (.ireturn, 1) := by decide +kernel
theorem dX0_priceOf_27 : decode cX0_priceOf 27 = .ok (.iinc 2 1, 3) := by decide +kernel
theorem dX0_priceOf_30 : decode cX0_priceOf 30 = .ok (.goto (-28), 3) := by decide +kernel
theorem dX0_priceOf_33 : decode cX0_priceOf 33 = .ok (.iconst (-1), 1) := by decide +kernel
theorem dX0_priceOf_34 : decode cX0_priceOf 34 = .ok (.ireturn, 1) := by decide +kernel
theorem dX4_become_0 : decode cX4_become 0 = .ok (.iconst 0, 1) := by decide +kernel
theorem dX4_become_1 : decode cX4_become 1 = .ok (.istore_n 2, 1) := by decide +kernel
theorem dX4_become_2 : decode cX4_become 2 = .ok (.iload_n 2, 1) := by decide +kernel
theorem dX4_become_3 : decode cX4_become 3 = .ok (.bipush 6, 2) := by decide +kernel
theorem dX4_become_5 : decode cX4_become 5 = .ok (.if_icmp .ge 33, 3) := by decide +kernel
theorem dX4_become_8 : decode cX4_become 8 = .ok (.aload_n 0, 1) := by decide +kernel
theorem dX4_become_9 : decode cX4_become 9 = .ok (.getfield 9, 3) := by decide +kernel
theorem dX4_become_12 : decode cX4_become 12 = .ok (.iload_n 2, 1) := by decide +kernel
theorem dX4_become_13 : decode cX4_become 13 = .ok (.aload_n 1, 1) := by decide +kernel
theorem dX4_become_14 : decode cX4_become 14 = .ok (.getfield 9, 3) := by decide +kernel
theorem dX4_become_17 : decode cX4_become 17 = .ok (.iload_n 2, 1) := by decide +kernel
theorem dX4_become_18 : decode cX4_become 18 = .ok (.iaload, 1) := by decide +kernel
theorem dX4_become_19 : decode cX4_become 19 = .ok (.iastore, 1) := by decide +kernel
theorem dX4_become_20 : decode cX4_become 20 = .ok (.aload_n 0, 1) := by decide +kernel
theorem dX4_become_21 : decode cX4_become 21 = .ok (.getfield 15, 3) := by decide +kernel
theorem dX4_become_24 : decode cX4_become 24 = .ok (.iload_n 2, 1) := by decide +kernel
theorem dX4_become_25 : decode cX4_become 25 = .ok (.aload_n 1, 1) := by decide +kernel
theorem dX4_become_26 : decode cX4_become 26 = .ok (.getfield 15, 3) := by decide +kernel
theorem dX4_become_29 : decode cX4_become 29 = .ok (.iload_n 2, 1) := by decide +kernel
theorem dX4_become_30 : decode cX4_become 30 = .ok (.iaload, 1) := by decide +kernel
theorem dX4_become_31 : decode cX4_become 31 = .ok (.iastore, 1) := by decide +kernel
theorem dX4_become_32 : decode cX4_become 32 = .ok (.iinc 2 1, 3) := by decide +kernel
theorem dX4_become_35 : decode cX4_become 35 = .ok (.goto (-33), 3) := by decide +kernel
theorem dX4_become_38 : decode cX4_become 38 = .ok (.iconst 0, 1) := by decide +kernel
theorem dX4_become_39 : decode cX4_become 39 = .ok (.istore_n 2, 1) := by decide +kernel
theorem dX4_become_40 : decode cX4_become 40 = .ok (.iload_n 2, 1) := by decide +kernel
theorem dX4_become_41 : decode cX4_become 41 = .ok (.bipush 6, 2) := by decide +kernel
theorem dX4_become_43 : decode cX4_become 43 = .ok (.if_icmp .ge 21, 3) := by decide +kernel
theorem dX4_become_46 : decode cX4_become 46 = .ok (.aload_n 0, 1) := by decide +kernel
theorem dX4_become_47 : decode cX4_become 47 = .ok (.getfield 18, 3) := by decide +kernel
theorem dX4_become_50 : decode cX4_become 50 = .ok (.iload_n 2, 1) := by decide +kernel
theorem dX4_become_51 : decode cX4_become 51 = .ok (.aload_n 1, 1) := by decide +kernel
theorem dX4_become_52 : decode cX4_become 52 = .ok (.getfield 18, 3) := by decide +kernel
theorem dX4_become_55 : decode cX4_become 55 = .ok (.iload_n 2, 1) := by decide +kernel
theorem dX4_become_56 : decode cX4_become 56 = .ok (.baload, 1) := by decide +kernel
theorem dX4_become_57 : decode cX4_become 57 = .ok (.bastore, 1) := by decide +kernel
theorem dX4_become_58 : decode cX4_become 58 = .ok (.iinc 2 1, 3) := by decide +kernel
theorem dX4_become_61 : decode cX4_become 61 = .ok (.goto (-21), 3) := by decide +kernel
theorem dX4_become_64 : decode cX4_become 64 = .ok (.return_, 1) := by decide +kernel
theorem dX4_setOf_0 : decode cX4_setOf 0 = .ok (.iconst 0, 1) := by decide +kernel
theorem dX4_setOf_1 : decode cX4_setOf 1 = .ok (.istore_n 2, 1) := by decide +kernel
theorem dX4_setOf_2 : decode cX4_setOf 2 = .ok (.iconst 0, 1) := by decide +kernel
theorem dX4_setOf_3 : decode cX4_setOf 3 = .ok (.istore_n 3, 1) := by decide +kernel
theorem dX4_setOf_4 : decode cX4_setOf 4 = .ok (.iload_n 3, 1) := by decide +kernel
theorem dX4_setOf_5 : decode cX4_setOf 5 = .ok (.aload_n 0, 1) := by decide +kernel
theorem dX4_setOf_6 : decode cX4_setOf 6 = .ok (.getfield 22, 3) := by decide +kernel
theorem dX4_setOf_9 : decode cX4_setOf 9 = .ok (.getfield 26, 3) := by decide +kernel
theorem dX4_setOf_12 : decode cX4_setOf 12 = .ok (.if_icmp .ge 25, 3) := by decide +kernel
theorem dX4_setOf_15 : decode cX4_setOf 15 = .ok (.aload_n 0, 1) := by decide +kernel
theorem dX4_setOf_16 : decode cX4_setOf 16 = .ok (.getfield 15, 3) := by decide +kernel
theorem dX4_setOf_19 : decode cX4_setOf 19 = .ok (.iload_n 3, 1) := by decide +kernel
theorem dX4_setOf_20 : decode cX4_setOf 20 = .ok (.iaload, 1) := by decide +kernel
theorem dX4_setOf_21 : decode cX4_setOf 21 = .ok (.iload_n 1, 1) := by decide +kernel
theorem dX4_setOf_22 : decode cX4_setOf 22 = .ok (.if_icmp .ne 9, 3) := by decide +kernel
theorem dX4_setOf_25 : decode cX4_setOf 25 = .ok (.iload_n 2, 1) := by decide +kernel
theorem dX4_setOf_26 : decode cX4_setOf 26 = .ok (.iconst 1, 1) := by decide +kernel
theorem dX4_setOf_27 : decode cX4_setOf 27 = .ok (.iload_n 3, 1) := by decide +kernel
theorem dX4_setOf_28 : decode cX4_setOf 28 = .ok (.ishl, 1) := by decide +kernel
theorem dX4_setOf_29 : decode cX4_setOf 29 = .ok (.ior, 1) := by decide +kernel
theorem dX4_setOf_30 : decode cX4_setOf 30 = .ok (.istore_n 2, 1) := by decide +kernel
theorem dX4_setOf_31 : decode cX4_setOf 31 = .ok (.iinc 3 1, 3) := by decide +kernel
theorem dX4_setOf_34 : decode cX4_setOf 34 = .ok (.goto (-30), 3) := by decide +kernel
theorem dX4_setOf_37 : decode cX4_setOf 37 = .ok (.iload_n 2, 1) := by decide +kernel
theorem dX4_setOf_38 : decode cX4_setOf 38 = .ok (.ireturn, 1) := by decide +kernel
theorem dJ6_bitCount_0f7a4_0 : decode cJ6_bitCount_0f7a4 0 = .ok (.iload_n 0, 1) := by decide +kernel
theorem dJ6_bitCount_0f7a4_1 : decode cJ6_bitCount_0f7a4 1 = .ok (.iload_n 0, 1) := by decide +kernel
theorem dJ6_bitCount_0f7a4_2 : decode cJ6_bitCount_0f7a4 2 = .ok (.iconst 1, 1) := by decide +kernel
theorem dJ6_bitCount_0f7a4_3 : decode cJ6_bitCount_0f7a4 3 = .ok (.iushr, 1) := by decide +kernel
theorem dJ6_bitCount_0f7a4_4 : decode cJ6_bitCount_0f7a4 4 = .ok (.ldc_w 265, 3) := by decide +kernel
theorem dJ6_bitCount_0f7a4_7 : decode cJ6_bitCount_0f7a4 7 = .ok (.iand, 1) := by decide +kernel
theorem dJ6_bitCount_0f7a4_8 : decode cJ6_bitCount_0f7a4 8 = .ok (.isub, 1) := by decide +kernel
theorem dJ6_bitCount_0f7a4_9 : decode cJ6_bitCount_0f7a4 9 = .ok (.istore_n 0, 1) := by decide +kernel
theorem dJ6_bitCount_0f7a4_10 : decode cJ6_bitCount_0f7a4 10 = .ok (.iload_n 0, 1) := by decide +kernel
theorem dJ6_bitCount_0f7a4_11 : decode cJ6_bitCount_0f7a4 11 = .ok (.ldc_w 266, 3) := by decide +kernel
theorem dJ6_bitCount_0f7a4_14 : decode cJ6_bitCount_0f7a4 14 = .ok (.iand, 1) := by decide +kernel
theorem dJ6_bitCount_0f7a4_15 : decode cJ6_bitCount_0f7a4 15 = .ok (.iload_n 0, 1) := by decide +kernel
theorem dJ6_bitCount_0f7a4_16 : decode cJ6_bitCount_0f7a4 16 = .ok (.iconst 2, 1) := by decide +kernel
theorem dJ6_bitCount_0f7a4_17 : decode cJ6_bitCount_0f7a4 17 = .ok (.iushr, 1) := by decide +kernel
theorem dJ6_bitCount_0f7a4_18 : decode cJ6_bitCount_0f7a4 18 = .ok (.ldc_w 266, 3) := by decide +kernel
theorem dJ6_bitCount_0f7a4_21 : decode cJ6_bitCount_0f7a4 21 = .ok (.iand, 1) := by decide +kernel
theorem dJ6_bitCount_0f7a4_22 : decode cJ6_bitCount_0f7a4 22 = .ok (.iadd, 1) := by decide +kernel
theorem dJ6_bitCount_0f7a4_23 : decode cJ6_bitCount_0f7a4 23 = .ok (.istore_n 0, 1) := by decide +kernel
theorem dJ6_bitCount_0f7a4_24 : decode cJ6_bitCount_0f7a4 24 = .ok (.iload_n 0, 1) := by decide +kernel
theorem dJ6_bitCount_0f7a4_25 : decode cJ6_bitCount_0f7a4 25 = .ok (.iload_n 0, 1) := by decide +kernel
theorem dJ6_bitCount_0f7a4_26 : decode cJ6_bitCount_0f7a4 26 = .ok (.iconst 4, 1) := by decide +kernel
theorem dJ6_bitCount_0f7a4_27 : decode cJ6_bitCount_0f7a4 27 = .ok (.iushr, 1) := by decide +kernel
theorem dJ6_bitCount_0f7a4_28 : decode cJ6_bitCount_0f7a4 28 = .ok (.iadd, 1) := by decide +kernel
theorem dJ6_bitCount_0f7a4_29 : decode cJ6_bitCount_0f7a4 29 = .ok (.ldc_w 267, 3) := by decide +kernel
theorem dJ6_bitCount_0f7a4_32 : decode cJ6_bitCount_0f7a4 32 = .ok (.iand, 1) := by decide +kernel
theorem dJ6_bitCount_0f7a4_33 : decode cJ6_bitCount_0f7a4 33 = .ok (.istore_n 0, 1) := by decide +kernel
theorem dJ6_bitCount_0f7a4_34 : decode cJ6_bitCount_0f7a4 34 = .ok (.iload_n 0, 1) := by decide +kernel
theorem dJ6_bitCount_0f7a4_35 : decode cJ6_bitCount_0f7a4 35 = .ok (.iload_n 0, 1) := by decide +kernel
theorem dJ6_bitCount_0f7a4_36 : decode cJ6_bitCount_0f7a4 36 = .ok (.bipush 8, 2) := by decide +kernel
theorem dJ6_bitCount_0f7a4_38 : decode cJ6_bitCount_0f7a4 38 = .ok (.iushr, 1) := by decide +kernel
theorem dJ6_bitCount_0f7a4_39 : decode cJ6_bitCount_0f7a4 39 = .ok (.iadd, 1) := by decide +kernel
theorem dJ6_bitCount_0f7a4_40 : decode cJ6_bitCount_0f7a4 40 = .ok (.istore_n 0, 1) := by decide +kernel
theorem dJ6_bitCount_0f7a4_41 : decode cJ6_bitCount_0f7a4 41 = .ok (.iload_n 0, 1) := by decide +kernel
theorem dJ6_bitCount_0f7a4_42 : decode cJ6_bitCount_0f7a4 42 = .ok (.iload_n 0, 1) := by decide +kernel
theorem dJ6_bitCount_0f7a4_43 : decode cJ6_bitCount_0f7a4 43 = .ok (.bipush 16, 2) := by decide +kernel
theorem dJ6_bitCount_0f7a4_45 : decode cJ6_bitCount_0f7a4 45 = .ok (.iushr, 1) := by decide +kernel
theorem dJ6_bitCount_0f7a4_46 : decode cJ6_bitCount_0f7a4 46 = .ok (.iadd, 1) := by decide +kernel
theorem dJ6_bitCount_0f7a4_47 : decode cJ6_bitCount_0f7a4 47 = .ok (.istore_n 0, 1) := by decide +kernel
theorem dJ6_bitCount_0f7a4_48 : decode cJ6_bitCount_0f7a4 48 = .ok (.iload_n 0, 1) := by decide +kernel
theorem dJ6_bitCount_0f7a4_49 : decode cJ6_bitCount_0f7a4 49 = .ok (.bipush 63, 2) := by decide +kernel
theorem dJ6_bitCount_0f7a4_51 : decode cJ6_bitCount_0f7a4 51 = .ok (.iand, 1) := by decide +kernel
theorem dJ6_bitCount_0f7a4_52 : decode cJ6_bitCount_0f7a4 52 = .ok (.ireturn, 1) := by decide +kernel
theorem dX4_shopsOf_0 : decode cX4_shopsOf 0 = .ok (.aload_n 0, 1) := by decide +kernel
theorem dX4_shopsOf_1 : decode cX4_shopsOf 1 = .ok (.iload_n 1, 1) := by decide +kernel
theorem dX4_shopsOf_2 : decode cX4_shopsOf 2 = .ok (.invokevirtual 32, 3) := by decide +kernel
theorem dX4_shopsOf_5 : decode cX4_shopsOf 5 = .ok (.invokestatic 36, 3) := by decide +kernel
theorem dX4_shopsOf_8 : decode cX4_shopsOf 8 = .ok (.ireturn, 1) := by decide +kernel
theorem dX4_spareOf_0 : decode cX4_spareOf 0 = .ok (.aload_n 0, 1) := by decide +kernel
theorem dX4_spareOf_1 : decode cX4_spareOf 1 = .ok (.iload_n 1, 1) := by decide +kernel
theorem dX4_spareOf_2 : decode cX4_spareOf 2 = .ok (.iconst (-1), 1) := by decide +kernel
theorem dX4_spareOf_3 : decode cX4_spareOf 3 = .ok (.invokevirtual 67, 3) := by decide +kernel
theorem dX4_spareOf_6 : decode cX4_spareOf 6 = .ok (.istore_n 2, 1) := by decide +kernel
theorem dX4_spareOf_7 : decode cX4_spareOf 7 = .ok (.iload_n 2, 1) := by decide +kernel
theorem dX4_spareOf_8 : decode cX4_spareOf 8 = .ok (.iconst (-1), 1) := by decide +kernel
theorem dX4_spareOf_9 : decode cX4_spareOf 9 = .ok (.if_icmp .ne 7, 3) := by decide +kernel
theorem dX4_spareOf_12 : decode cX4_spareOf 12 = .ok (.iconst 0, 1) := by decide +kernel
theorem dX4_spareOf_13 : decode cX4_spareOf 13 = .ok (.goto 19, 3) := by decide +kernel
theorem dX4_spareOf_16 : decode cX4_spareOf 16 = .ok (.aload_n 0, 1) := by decide +kernel
theorem dX4_spareOf_17 : decode cX4_spareOf 17 = .ok (.getfield 22, 3) := by decide +kernel
theorem dX4_spareOf_20 : decode cX4_spareOf 20 = .ok (.getfield 60, 3) := by decide +kernel
theorem dX4_spareOf_23 : decode cX4_spareOf 23 = .ok (.iload_n 1, 1) := by decide +kernel
theorem dX4_spareOf_24 : decode cX4_spareOf 24 = .ok (.iaload, 1) := by decide +kernel
theorem dX4_spareOf_25 : decode cX4_spareOf 25 = .ok (.aload_n 0, 1) := by decide +kernel
theorem dX4_spareOf_26 : decode cX4_spareOf 26 = .ok (.iload_n 1, 1) := by decide +kernel
theorem dX4_spareOf_27 : decode cX4_spareOf 27 = .ok (.iload_n 2, 1) := by decide +kernel
theorem dX4_spareOf_28 : decode cX4_spareOf 28 = .ok (.invokevirtual 63, 3) := by decide +kernel
theorem dX4_spareOf_31 : decode cX4_spareOf 31 = .ok (.isub, 1) := by decide +kernel
theorem dX4_spareOf_32 : decode cX4_spareOf 32 = .ok (.ireturn, 1) := by decide +kernel
theorem dX4_soldBy_0 : decode cX4_soldBy 0 = .ok (.iconst 0, 1) := by decide +kernel
theorem dX4_soldBy_1 : decode cX4_soldBy 1 = .ok (.istore_n 2, 1) := by decide +kernel
theorem dX4_soldBy_2 : decode cX4_soldBy 2 = .ok (.iconst 0, 1) := by decide +kernel
theorem dX4_soldBy_3 : decode cX4_soldBy 3 = .ok (.istore_n 3, 1) := by decide +kernel
theorem dX4_soldBy_4 : decode cX4_soldBy 4 = .ok (.iload_n 3, 1) := by decide +kernel
theorem dX4_soldBy_5 : decode cX4_soldBy 5 = .ok (.aload_n 0, 1) := by decide +kernel
theorem dX4_soldBy_6 : decode cX4_soldBy 6 = .ok (.getfield 22, 3) := by decide +kernel
theorem dX4_soldBy_9 : decode cX4_soldBy 9 = .ok (.getfield 70, 3) := by decide +kernel
theorem dX4_soldBy_12 : decode cX4_soldBy 12 = .ok (.if_icmp .ge 45, 3) := by decide +kernel
theorem dX4_soldBy_15 : decode cX4_soldBy 15 = .ok (.aload_n 0, 1) := by decide +kernel
theorem dX4_soldBy_16 : decode cX4_soldBy 16 = .ok (.iload_n 3, 1) := by decide +kernel
theorem dX4_soldBy_17 : decode cX4_soldBy 17 = .ok (.iconst (-1), 1) := by decide +kernel
theorem dX4_soldBy_18 : decode cX4_soldBy 18 = .ok (.invokevirtual 67, 3) := by decide +kernel
theorem dX4_soldBy_21 : decode cX4_soldBy 21 = .ok (.istore 4, 2) := by decide +kernel
theorem dX4_soldBy_23 : decode cX4_soldBy 23 = .ok (.iload 4, 2) := by decide +kernel
theorem dX4_soldBy_25 : decode cX4_soldBy 25 = .ok (.iconst (-1), 1) := by decide +kernel
theorem dX4_soldBy_26 : decode cX4_soldBy 26 = .ok (.if_icmp .eq 25, 3) := by decide +kernel
theorem dX4_soldBy_29 : decode cX4_soldBy 29 = .ok (.iload_n 1, 1) := by decide +kernel
theorem dX4_soldBy_30 : decode cX4_soldBy 30 = .ok (.iload 4, 2) := by decide +kernel
theorem dX4_soldBy_32 : decode cX4_soldBy 32 = .ok (.ishr, 1) := by decide +kernel
theorem dX4_soldBy_33 : decode cX4_soldBy 33 = .ok (.iconst 1, 1) := by decide +kernel
theorem dX4_soldBy_34 : decode cX4_soldBy 34 = .ok (.iand, 1) := by decide +kernel
theorem dX4_soldBy_35 : decode cX4_soldBy 35 = .ok (.iconst 1, 1) := by decide +kernel
theorem dX4_soldBy_36 : decode cX4_soldBy 36 = .ok (.if_icmp .ne 15, 3) := by decide +kernel
theorem dX4_soldBy_39 : decode cX4_soldBy 39 = .ok (.iload_n 2, 1) := by decide +kernel
theorem dX4_soldBy_40 : decode cX4_soldBy 40 = .ok (.aload_n 0, 1) := by decide +kernel
theorem dX4_soldBy_41 : decode cX4_soldBy 41 = .ok (.getfield 22, 3) := by decide +kernel
theorem dX4_soldBy_44 : decode cX4_soldBy 44 = .ok (.getfield 73, 3) := by decide +kernel
theorem dX4_soldBy_47 : decode cX4_soldBy 47 = .ok (.iload_n 3, 1) := by decide +kernel
theorem dX4_soldBy_48 : decode cX4_soldBy 48 = .ok (.iaload, 1) := by decide +kernel
theorem dX4_soldBy_49 : decode cX4_soldBy 49 = .ok (.iadd, 1) := by decide +kernel
theorem dX4_soldBy_50 : decode cX4_soldBy 50 = .ok (.istore_n 2, 1) := by decide +kernel
theorem dX4_soldBy_51 : decode cX4_soldBy 51 = .ok (.iinc 3 1, 3) := by decide +kernel
theorem dX4_soldBy_54 : decode cX4_soldBy 54 = .ok (.goto (-50), 3) := by decide +kernel
theorem dX4_soldBy_57 : decode cX4_soldBy 57 = .ok (.iload_n 2, 1) := by decide +kernel
theorem dX4_soldBy_58 : decode cX4_soldBy 58 = .ok (.ireturn, 1) := by decide +kernel
theorem dX5_addOwner_0 : decode cX5_addOwner 0 = .ok (.aload_n 0, 1) := by decide +kernel
theorem dX5_addOwner_1 : decode cX5_addOwner 1 = .ok (.getfield 47, 3) := by decide +kernel
theorem dX5_addOwner_4 : decode cX5_addOwner 4 = .ok (.bipush 6, 2) := by decide +kernel
theorem dX5_addOwner_6 : decode cX5_addOwner 6 = .ok (.if_icmp .lt 6, 3) := by decide +kernel
theorem dX5_addOwner_9 : decode cX5_addOwner 9 = .ok (.bipush (-104), 2) := by decide +kernel
theorem dX5_addOwner_11 : decode cX5_addOwner 11 = .ok (.ireturn, 1) := by decide +kernel
theorem dX5_addOwner_12 : decode cX5_addOwner 12 = .ok (.aload_n 0, 1) := by decide +kernel
theorem dX5_addOwner_13 : decode cX5_addOwner 13 = .ok (.getfield 9, 3) := by decide +kernel
theorem dX5_addOwner_16 : decode cX5_addOwner 16 = .ok (.aload_n 0, 1) := by decide +kernel
theorem dX5_addOwner_17 : decode cX5_addOwner 17 = .ok (.getfield 47, 3) := by decide +kernel
theorem dX5_addOwner_20 : decode cX5_addOwner 20 = .ok (.iload_n 1, 1) := by decide +kernel
theorem dX5_addOwner_21 : decode cX5_addOwner 21 = .ok (.iastore, 1) := by decide +kernel
theorem dX5_addOwner_22 : decode cX5_addOwner 22 = .ok (.aload_n 0, 1) := by decide +kernel
theorem dX5_addOwner_23 : decode cX5_addOwner 23 = .ok (.getfield 15, 3) := by decide +kernel
theorem dX5_addOwner_26 : decode cX5_addOwner 26 = .ok (.aload_n 0, 1) := by decide +kernel
theorem dX5_addOwner_27 : decode cX5_addOwner 27 = .ok (.getfield 47, 3) := by decide +kernel
theorem dX5_addOwner_30 : decode cX5_addOwner 30 = .ok (.iload_n 2, 1) := by decide +kernel
theorem dX5_addOwner_31 : decode cX5_addOwner 31 = .ok (.iastore, 1) := by decide +kernel
theorem dX5_addOwner_32 : decode cX5_addOwner 32 = .ok (.aload_n 0, 1) := by decide +kernel
theorem dX5_addOwner_33 : decode cX5_addOwner 33 = .ok (.dup, 1) := by decide +kernel
theorem dX5_addOwner_34 : decode cX5_addOwner 34 = .ok (.getfield 47, 3) := by decide +kernel
theorem dX5_addOwner_37 : decode cX5_addOwner 37 = .ok (.iconst 1, 1) := by decide +kernel
theorem dX5_addOwner_38 : decode cX5_addOwner 38 = .ok (.iadd, 1) := by decide +kernel
theorem dX5_addOwner_39 : decode cX5_addOwner 39 = .ok (.putfield 47, 3) := by decide +kernel
theorem dX5_addOwner_42 : decode cX5_addOwner 42 = .ok (.aload_n 0, 1) := by decide +kernel
theorem dX5_addOwner_43 : decode cX5_addOwner 43 = .ok (.getfield 47, 3) := by decide +kernel
theorem dX5_addOwner_46 : decode cX5_addOwner 46 = .ok (.iconst 1, 1) := by decide +kernel
theorem dX5_addOwner_47 : decode cX5_addOwner 47 = .ok (.isub, 1) := by decide +kernel
theorem dX5_addOwner_48 : decode cX5_addOwner 48 = .ok (.ireturn, 1) := by decide +kernel
theorem dX5_measure_0 : decode cX5_measure 0 = .ok (.aload_n 0, 1) := by decide +kernel
theorem dX5_measure_1 : decode cX5_measure 1 = .ok (.getfield 24, 3) := by decide +kernel
theorem dX5_measure_4 : decode cX5_measure 4 = .ok (.iload_n 1, 1) := by decide +kernel
theorem dX5_measure_5 : decode cX5_measure 5 = .ok (.iaload, 1) := by decide +kernel
theorem dX5_measure_6 : decode cX5_measure 6 = .ok (.aload_n 0, 1) := by decide +kernel
theorem dX5_measure_7 : decode cX5_measure 7 = .ok (.getfield 18, 3) := by decide +kernel
theorem dX5_measure_10 : decode cX5_measure 10 = .ok (.iload_n 2, 1) := by decide +kernel
theorem dX5_measure_11 : decode cX5_measure 11 = .ok (.iaload, 1) := by decide +kernel
theorem dX5_measure_12 : decode cX5_measure 12 = .ok (.isub, 1) := by decide +kernel
theorem dX5_measure_13 : decode cX5_measure 13 = .ok (.invokestatic 61, 3) := by decide +kernel
theorem dX5_measure_16 : decode cX5_measure 16 = .ok (.istore_n 3, 1) := by decide +kernel
theorem dX5_measure_17 : decode cX5_measure 17 = .ok (.aload_n 0, 1) := by decide +kernel
theorem dX5_measure_18 : decode cX5_measure 18 = .ok (.getfield 44, 3) := by decide +kernel
theorem dX5_measure_21 : decode cX5_measure 21 = .ok (.iload_n 1, 1) := by decide +kernel
theorem dX5_measure_22 : decode cX5_measure 22 = .ok (.aaload, 1) := by decide +kernel
theorem dX5_measure_23 : decode cX5_measure 23 = .ok (.iload_n 2, 1) := by decide +kernel
theorem dX5_measure_24 : decode cX5_measure 24 = .ok (.aload_n 0, 1) := by decide +kernel
theorem dX5_measure_25 : decode cX5_measure 25 = .ok (.getfield 30, 3) := by decide +kernel
theorem dX5_measure_28 : decode cX5_measure 28 = .ok (.iload_n 1, 1) := by decide +kernel
theorem dX5_measure_29 : decode cX5_measure 29 = .ok (.iaload, 1) := by decide +kernel
theorem dX5_measure_30 : decode cX5_measure 30 = .ok (.iload_n 3, 1) := by decide +kernel
theorem dX5_measure_31 : decode cX5_measure 31 = .ok (.imul, 1) := by decide +kernel
theorem dX5_measure_32 : decode cX5_measure 32 = .ok (.aload_n 0, 1) := by decide +kernel
theorem dX5_measure_33 : decode cX5_measure 33 = .ok (.getfield 36, 3) := by decide +kernel
theorem dX5_measure_36 : decode cX5_measure 36 = .ok (.iload_n 1, 1) := by decide +kernel
theorem dX5_measure_37 : decode cX5_measure 37 = .ok (.iaload, 1) := by decide +kernel
theorem dX5_measure_38 : decode cX5_measure 38 = .ok (.iload_n 2, 1) := by decide +kernel
theorem dX5_measure_39 : decode cX5_measure 39 = .ok (.if_icmp .ne 12, 3) := by decide +kernel
theorem dX5_measure_42 : decode cX5_measure 42 = .ok (.aload_n 0, 1) := by decide +kernel
theorem dX5_measure_43 : decode cX5_measure 43 = .ok (.getfield 39, 3) := by decide +kernel
theorem dX5_measure_46 : decode cX5_measure 46 = .ok (.iload_n 1, 1) := by decide +kernel
theorem dX5_measure_47 : decode cX5_measure 47 = .ok (.iaload, 1) := by decide +kernel
theorem dX5_measure_48 : decode cX5_measure 48 = .ok (.goto 4, 3) := by decide +kernel
theorem dX5_measure_51 : decode cX5_measure 51 = .ok (.iconst 0, 1) := by decide +kernel
theorem dX5_measure_52 : decode cX5_measure 52 = .ok (.isub, 1) := by decide +kernel
theorem dX5_measure_53 : decode cX5_measure 53 = .ok (.iastore, 1) := by decide +kernel
theorem dX5_measure_54 : decode cX5_measure 54 = .ok (.return_, 1) := by decide +kernel
theorem dX5_addShop_0 : decode cX5_addShop 0 = .ok (.aload_n 0, 1) := by decide +kernel
theorem dX5_addShop_1 : decode cX5_addShop 1 = .ok (.getfield 51, 3) := by decide +kernel
theorem dX5_addShop_4 : decode cX5_addShop 4 = .ok (.bipush 6, 2) := by decide +kernel
theorem dX5_addShop_6 : decode cX5_addShop 6 = .ok (.if_icmp .lt 6, 3) := by decide +kernel
theorem dX5_addShop_9 : decode cX5_addShop 9 = .ok (.bipush (-104), 2) := by decide +kernel
theorem dX5_addShop_11 : decode cX5_addShop 11 = .ok (.ireturn, 1) := by decide +kernel
theorem dX5_addShop_12 : decode cX5_addShop 12 = .ok (.aload_n 0, 1) := by decide +kernel
theorem dX5_addShop_13 : decode cX5_addShop 13 = .ok (.getfield 18, 3) := by decide +kernel
theorem dX5_addShop_16 : decode cX5_addShop 16 = .ok (.aload_n 0, 1) := by decide +kernel
theorem dX5_addShop_17 : decode cX5_addShop 17 = .ok (.getfield 51, 3) := by decide +kernel
theorem dX5_addShop_20 : decode cX5_addShop 20 = .ok (.iload_n 1, 1) := by decide +kernel
theorem dX5_addShop_21 : decode cX5_addShop 21 = .ok (.iastore, 1) := by decide +kernel
theorem dX5_addShop_22 : decode cX5_addShop 22 = .ok (.aload_n 0, 1) := by decide +kernel
theorem dX5_addShop_23 : decode cX5_addShop 23 = .ok (.getfield 21, 3) := by decide +kernel
theorem dX5_addShop_26 : decode cX5_addShop 26 = .ok (.aload_n 0, 1) := by decide +kernel
theorem dX5_addShop_27 : decode cX5_addShop 27 = .ok (.getfield 51, 3) := by decide +kernel
theorem dX5_addShop_30 : decode cX5_addShop 30 = .ok (.iload_n 2, 1) := by decide +kernel
theorem dX5_addShop_31 : decode cX5_addShop 31 = .ok (.iastore, 1) := by decide +kernel
theorem dX5_addShop_32 : decode cX5_addShop 32 = .ok (.aload_n 0, 1) := by decide +kernel
theorem dX5_addShop_33 : decode cX5_addShop 33 = .ok (.dup, 1) := by decide +kernel
theorem dX5_addShop_34 : decode cX5_addShop 34 = .ok (.getfield 51, 3) := by decide +kernel
theorem dX5_addShop_37 : decode cX5_addShop 37 = .ok (.iconst 1, 1) := by decide +kernel
theorem dX5_addShop_38 : decode cX5_addShop 38 = .ok (.iadd, 1) := by decide +kernel
theorem dX5_addShop_39 : decode cX5_addShop 39 = .ok (.putfield 51, 3) := by decide +kernel
theorem dX5_addShop_42 : decode cX5_addShop 42 = .ok (.iconst 0, 1) := by decide +kernel
theorem dX5_addShop_43 : decode cX5_addShop 43 = .ok (.istore_n 3, 1) := by decide +kernel
theorem dX5_addShop_44 : decode cX5_addShop 44 = .ok (.iload_n 3, 1) := by decide +kernel
theorem dX5_addShop_45 : decode cX5_addShop 45 = .ok (.aload_n 0, 1) := by decide +kernel
theorem dX5_addShop_46 : decode cX5_addShop 46 = .ok (.getfield 54, 3) := by decide +kernel
theorem dX5_addShop_49 : decode cX5_addShop 49 = .ok (.if_icmp .ge 20, 3) := by decide +kernel
theorem dX5_addShop_52 : decode cX5_addShop 52 = .ok (.aload_n 0, 1) := by decide +kernel
theorem dX5_addShop_53 : decode cX5_addShop 53 = .ok (.iload_n 3, 1) := by decide +kernel
theorem dX5_addShop_54 : decode cX5_addShop 54 = .ok (.aload_n 0, 1) := by decide +kernel
theorem dX5_addShop_55 : decode cX5_addShop 55 = .ok (.getfield 51, 3) := by decide +kernel
theorem dX5_addShop_58 : decode cX5_addShop 58 = .ok (.iconst 1, 1) := by decide +kernel
theorem dX5_addShop_59 : decode cX5_addShop 59 = .ok (.isub, 1) := by decide +kernel
theorem dX5_addShop_60 : decode cX5_addShop 60 = .ok (.invokevirtual 57, 3) := by decide +kernel
theorem dX5_addShop_63 : decode cX5_addShop 63 = .ok (.iinc 3 1, 3) := by decide +kernel
theorem dX5_addShop_66 : decode cX5_addShop 66 = .ok (.goto (-22), 3) := by decide +kernel
theorem dX5_addShop_69 : decode cX5_addShop 69 = .ok (.aload_n 0, 1) := by decide +kernel
theorem dX5_addShop_70 : decode cX5_addShop 70 = .ok (.getfield 51, 3) := by decide +kernel
theorem dX5_addShop_73 : decode cX5_addShop 73 = .ok (.iconst 1, 1) := by decide +kernel
theorem dX5_addShop_74 : decode cX5_addShop 74 = .ok (.isub, 1) := by decide +kernel
theorem dX5_addShop_75 : decode cX5_addShop 75 = .ok (.ireturn, 1) := by decide +kernel
theorem dX5_addSort_0 : decode cX5_addSort 0 = .ok (.aload_n 0, 1) := by decide +kernel
theorem dX5_addSort_1 : decode cX5_addSort 1 = .ok (.getfield 54, 3) := by decide +kernel
theorem dX5_addSort_4 : decode cX5_addSort 4 = .ok (.bipush 8, 2) := by decide +kernel
theorem dX5_addSort_6 : decode cX5_addSort 6 = .ok (.if_icmp .lt 6, 3) := by decide +kernel
theorem dX5_addSort_9 : decode cX5_addSort 9 = .ok (.bipush (-104), 2) := by decide +kernel
theorem dX5_addSort_11 : decode cX5_addSort 11 = .ok (.ireturn, 1) := by decide +kernel
theorem dX5_addSort_12 : decode cX5_addSort 12 = .ok (.aload_n 0, 1) := by decide +kernel
theorem dX5_addSort_13 : decode cX5_addSort 13 = .ok (.getfield 24, 3) := by decide +kernel
theorem dX5_addSort_16 : decode cX5_addSort 16 = .ok (.aload_n 0, 1) := by decide +kernel
theorem dX5_addSort_17 : decode cX5_addSort 17 = .ok (.getfield 54, 3) := by decide +kernel
theorem dX5_addSort_20 : decode cX5_addSort 20 = .ok (.iload_n 1, 1) := by decide +kernel
theorem dX5_addSort_21 : decode cX5_addSort 21 = .ok (.iastore, 1) := by decide +kernel
theorem dX5_addSort_22 : decode cX5_addSort 22 = .ok (.aload_n 0, 1) := by decide +kernel
theorem dX5_addSort_23 : decode cX5_addSort 23 = .ok (.getfield 27, 3) := by decide +kernel
theorem dX5_addSort_26 : decode cX5_addSort 26 = .ok (.aload_n 0, 1) := by decide +kernel
theorem dX5_addSort_27 : decode cX5_addSort 27 = .ok (.getfield 54, 3) := by decide +kernel
theorem dX5_addSort_30 : decode cX5_addSort 30 = .ok (.iload_n 2, 1) := by decide +kernel
theorem dX5_addSort_31 : decode cX5_addSort 31 = .ok (.iastore, 1) := by decide +kernel
theorem dX5_addSort_32 : decode cX5_addSort 32 = .ok (.aload_n 0, 1) := by decide +kernel
theorem dX5_addSort_33 : decode cX5_addSort 33 = .ok (.getfield 30, 3) := by decide +kernel
theorem dX5_addSort_36 : decode cX5_addSort 36 = .ok (.aload_n 0, 1) := by decide +kernel
theorem dX5_addSort_37 : decode cX5_addSort 37 = .ok (.getfield 54, 3) := by decide +kernel
theorem dX5_addSort_40 : decode cX5_addSort 40 = .ok (.iload_n 3, 1) := by decide +kernel
theorem dX5_addSort_41 : decode cX5_addSort 41 = .ok (.iastore, 1) := by decide +kernel
theorem dX5_addSort_42 : decode cX5_addSort 42 = .ok (.aload_n 0, 1) := by decide +kernel
theorem dX5_addSort_43 : decode cX5_addSort 43 = .ok (.getfield 33, 3) := by decide +kernel
theorem dX5_addSort_46 : decode cX5_addSort 46 = .ok (.aload_n 0, 1) := by decide +kernel
theorem dX5_addSort_47 : decode cX5_addSort 47 = .ok (.getfield 54, 3) := by decide +kernel
theorem dX5_addSort_50 : decode cX5_addSort 50 = .ok (.iload 4, 2) := by decide +kernel
theorem dX5_addSort_52 : decode cX5_addSort 52 = .ok (.iastore, 1) := by decide +kernel
theorem dX5_addSort_53 : decode cX5_addSort 53 = .ok (.aload_n 0, 1) := by decide +kernel
theorem dX5_addSort_54 : decode cX5_addSort 54 = .ok (.getfield 36, 3) := by decide +kernel
theorem dX5_addSort_57 : decode cX5_addSort 57 = .ok (.aload_n 0, 1) := by decide +kernel
theorem dX5_addSort_58 : decode cX5_addSort 58 = .ok (.getfield 54, 3) := by decide +kernel
theorem dX5_addSort_61 : decode cX5_addSort 61 = .ok (.iload 5, 2) := by decide +kernel
theorem dX5_addSort_63 : decode cX5_addSort 63 = .ok (.iastore, 1) := by decide +kernel
theorem dX5_addSort_64 : decode cX5_addSort 64 = .ok (.aload_n 0, 1) := by decide +kernel
theorem dX5_addSort_65 : decode cX5_addSort 65 = .ok (.getfield 39, 3) := by decide +kernel
theorem dX5_addSort_68 : decode cX5_addSort 68 = .ok (.aload_n 0, 1) := by decide +kernel
theorem dX5_addSort_69 : decode cX5_addSort 69 = .ok (.getfield 54, 3) := by decide +kernel
theorem dX5_addSort_72 : decode cX5_addSort 72 = .ok (.iload 6, 2) := by decide +kernel
theorem dX5_addSort_74 : decode cX5_addSort 74 = .ok (.iastore, 1) := by decide +kernel
theorem dX5_addSort_75 : decode cX5_addSort 75 = .ok (.aload_n 0, 1) := by decide +kernel
theorem dX5_addSort_76 : decode cX5_addSort 76 = .ok (.dup, 1) := by decide +kernel
theorem dX5_addSort_77 : decode cX5_addSort 77 = .ok (.getfield 54, 3) := by decide +kernel
theorem dX5_addSort_80 : decode cX5_addSort 80 = .ok (.iconst 1, 1) := by decide +kernel
theorem dX5_addSort_81 : decode cX5_addSort 81 = .ok (.iadd, 1) := by decide +kernel
theorem dX5_addSort_82 : decode cX5_addSort 82 = .ok (.putfield 54, 3) := by decide +kernel
theorem dX5_addSort_85 : decode cX5_addSort 85 = .ok (.iconst 0, 1) := by decide +kernel
theorem dX5_addSort_86 : decode cX5_addSort 86 = .ok (.istore 7, 2) := by decide +kernel
theorem dX5_addSort_88 : decode cX5_addSort 88 = .ok (.iload 7, 2) := by decide +kernel
theorem dX5_addSort_90 : decode cX5_addSort 90 = .ok (.aload_n 0, 1) := by decide +kernel
theorem dX5_addSort_91 : decode cX5_addSort 91 = .ok (.getfield 51, 3) := by decide +kernel
theorem dX5_addSort_94 : decode cX5_addSort 94 = .ok (.if_icmp .ge 21, 3) := by decide +kernel
theorem dX5_addSort_97 : decode cX5_addSort 97 = .ok (.aload_n 0, 1) := by decide +kernel
theorem dX5_addSort_98 : decode cX5_addSort 98 = .ok (.aload_n 0, 1) := by decide +kernel
theorem dX5_addSort_99 : decode cX5_addSort 99 = .ok (.getfield 54, 3) := by decide +kernel
theorem dX5_addSort_102 : decode cX5_addSort 102 = .ok (.iconst 1, 1) := by decide +kernel
theorem dX5_addSort_103 : decode cX5_addSort 103 = .ok (.isub, 1) := by decide +kernel
theorem dX5_addSort_104 : decode cX5_addSort 104 = .ok (.iload 7, 2) := by decide +kernel
theorem dX5_addSort_106 : decode cX5_addSort 106 = .ok (.invokevirtual 57, 3) := by decide +kernel
theorem dX5_addSort_109 : decode cX5_addSort 109 = .ok (.iinc 7 1, 3) := by decide +kernel
theorem dX5_addSort_112 : decode cX5_addSort 112 = .ok (.goto (-24), 3) := by decide +kernel
theorem dX5_addSort_115 : decode cX5_addSort 115 = .ok (.aload_n 0, 1) := by decide +kernel
theorem dX5_addSort_116 : decode cX5_addSort 116 = .ok (.getfield 54, 3) := by decide +kernel
theorem dX5_addSort_119 : decode cX5_addSort 119 = .ok (.iconst 1, 1) := by decide +kernel
theorem dX5_addSort_120 : decode cX5_addSort 120 = .ok (.isub, 1) := by decide +kernel
theorem dX5_addSort_121 : decode cX5_addSort 121 = .ok (.ireturn, 1) := by decide +kernel
theorem dX7_isNot_0 : decode cX7_isNot 0 = .ok (.iload_n 0, 1) := by decide +kernel
theorem dX7_isNot_1 : decode cX7_isNot 1 = .ok (.iload_n 1, 1) := by decide +kernel
theorem dX7_isNot_2 : decode cX7_isNot 2 = .ok (.if_icmp .lt 8, 3) := by decide +kernel
theorem dX7_isNot_5 : decode cX7_isNot 5 = .ok (.iload_n 0, 1) := by decide +kernel
theorem dX7_isNot_6 : decode cX7_isNot 6 = .ok (.iload_n 2, 1) := by decide +kernel
theorem dX7_isNot_7 : decode cX7_isNot 7 = .ok (.if_icmp .le 7, 3) := by decide +kernel
theorem dX7_isNot_10 : decode cX7_isNot 10 = .ok (.iconst 1, 1) := by decide +kernel
theorem dX7_isNot_11 : decode cX7_isNot 11 = .ok (.goto 4, 3) := by decide +kernel
theorem dX7_isNot_14 : decode cX7_isNot 14 = .ok (.iconst 0, 1) := by decide +kernel
theorem dX7_isNot_15 : decode cX7_isNot 15 = .ok (.ireturn, 1) := by decide +kernel
theorem dX7_owner_0 : decode cX7_owner 0 = .ok (.iload_n 1, 1) := by decide +kernel
theorem dX7_owner_1 : decode cX7_owner 1 = .ok (.iconst 0, 1) := by decide +kernel
theorem dX7_owner_2 : decode cX7_owner 2 = .ok (.iconst 4, 1) := by decide +kernel
theorem dX7_owner_3 : decode cX7_owner 3 = .ok (.invokestatic 72, 3) := by decide +kernel
theorem dX7_owner_6 : decode cX7_owner 6 = .ok (.ifCond .ne 13, 3) := by decide +kernel
theorem dX7_owner_9 : decode cX7_owner 9 = .ok (.iload_n 2, 1) := by decide +kernel
theorem dX7_owner_10 : decode cX7_owner 10 = .ok (.iconst 0, 1) := by decide +kernel
theorem dX7_owner_11 : decode cX7_owner 11 = .ok (.bipush 99, 2) := by decide +kernel
theorem dX7_owner_13 : decode cX7_owner 13 = .ok (.invokestatic 72, 3) := by decide +kernel
theorem dX7_owner_16 : decode cX7_owner 16 = .ok (.ifCond .eq 6, 3) := by decide +kernel
theorem dX7_owner_19 : decode cX7_owner 19 = .ok (.bipush (-102), 2) := by decide +kernel
theorem dX7_owner_21 : decode cX7_owner 21 = .ok (.ireturn, 1) := by decide +kernel
theorem dX7_owner_22 : decode cX7_owner 22 = .ok (.aload_n 0, 1) := by decide +kernel
theorem dX7_owner_23 : decode cX7_owner 23 = .ok (.getfield 10, 3) := by decide +kernel
theorem dX7_owner_26 : decode cX7_owner 26 = .ok (.iload_n 1, 1) := by decide +kernel
theorem dX7_owner_27 : decode cX7_owner 27 = .ok (.iload_n 2, 1) := by decide +kernel
theorem dX7_owner_28 : decode cX7_owner 28 = .ok (.invokevirtual 76, 3) := by decide +kernel
theorem dX7_owner_31 : decode cX7_owner 31 = .ok (.ireturn, 1) := by decide +kernel
theorem dX7_isNoOwner_0 : decode cX7_isNoOwner 0 = .ok (.iload_n 1, 1) := by decide +kernel
theorem dX7_isNoOwner_1 : decode cX7_isNoOwner 1 = .ok (.iconst 0, 1) := by decide +kernel
theorem dX7_isNoOwner_2 : decode cX7_isNoOwner 2 = .ok (.aload_n 0, 1) := by decide +kernel
theorem dX7_isNoOwner_3 : decode cX7_isNoOwner 3 = .ok (.getfield 10, 3) := by decide +kernel
theorem dX7_isNoOwner_6 : decode cX7_isNoOwner 6 = .ok (.getfield 159, 3) := by decide +kernel
theorem dX7_isNoOwner_9 : decode cX7_isNoOwner 9 = .ok (.iconst 1, 1) := by decide +kernel
theorem dX7_isNoOwner_10 : decode cX7_isNoOwner 10 = .ok (.isub, 1) := by decide +kernel
theorem dX7_isNoOwner_11 : decode cX7_isNoOwner 11 = .ok (.invokestatic 72, 3) := by decide +kernel
theorem dX7_isNoOwner_14 : decode cX7_isNoOwner 14 = .ok (.ireturn, 1) := by decide +kernel
theorem dX7_shop_0 : decode cX7_shop 0 = .ok (.aload_n 0, 1) := by decide +kernel
theorem dX7_shop_1 : decode cX7_shop 1 = .ok (.iload_n 1, 1) := by decide +kernel
theorem dX7_shop_2 : decode cX7_shop 2 = .ok (.invokevirtual 80, 3) := by decide +kernel
theorem dX7_shop_5 : decode cX7_shop 5 = .ok (.ifCond .eq 6, 3) := by decide +kernel
theorem dX7_shop_8 : decode cX7_shop 8 = .ok (.bipush (-101), 2) := by decide +kernel
theorem dX7_shop_10 : decode cX7_shop 10 = .ok (.ireturn, 1) := by decide +kernel
theorem dX7_shop_11 : decode cX7_shop 11 = .ok (.iload_n 2, 1) := by decide +kernel
theorem dX7_shop_12 : decode cX7_shop 12 = .ok (.iconst 0, 1) := by decide +kernel
theorem dX7_shop_13 : decode cX7_shop 13 = .ok (.bipush 9, 2) := by decide +kernel
theorem dX7_shop_15 : decode cX7_shop 15 = .ok (.invokestatic 72, 3) := by decide +kernel
theorem dX7_shop_18 : decode cX7_shop 18 = .ok (.ifCond .ne 24, 3) := by decide +kernel
theorem dX7_shop_21 : decode cX7_shop 21 = .ok (.iload_n 3, 1) := by decide +kernel
theorem dX7_shop_22 : decode cX7_shop 22 = .ok (.iconst 0, 1) := by decide +kernel
theorem dX7_shop_23 : decode cX7_shop 23 = .ok (.bipush 9, 2) := by decide +kernel
theorem dX7_shop_25 : decode cX7_shop 25 = .ok (.invokestatic 72, 3) := by decide +kernel
theorem dX7_shop_28 : decode cX7_shop 28 = .ok (.ifCond .ne 14, 3) := by decide +kernel
theorem dX7_shop_31 : decode cX7_shop 31 = .ok (.iload 4, 2) := by decide +kernel
theorem dX7_shop_33 : decode cX7_shop 33 = .ok (.iconst 0, 1) := by decide +kernel
theorem dX7_shop_34 : decode cX7_shop 34 = .ok (.bipush 9, 2) := by decide +kernel
theorem dX7_shop_36 : decode cX7_shop 36 = .ok (.invokestatic 72, 3) := by decide +kernel
theorem dX7_shop_39 : decode cX7_shop 39 = .ok (.ifCond .eq 6, 3) := by decide +kernel
theorem dX7_shop_42 : decode cX7_shop 42 = .ok (.bipush (-102), 2) := by decide +kernel
theorem dX7_shop_44 : decode cX7_shop 44 = .ok (.ireturn, 1) := by decide +kernel
theorem dX7_shop_45 : decode cX7_shop 45 = .ok (.aload_n 0, 1) := by decide +kernel
theorem dX7_shop_46 : decode cX7_shop 46 = .ok (.getfield 21, 3) := by decide +kernel
theorem dX7_shop_49 : decode cX7_shop 49 = .ok (.iload_n 1, 1) := by decide +kernel
theorem dX7_shop_50 : decode cX7_shop 50 = .ok (.invokevirtual 88, 3) := by decide +kernel
theorem dX7_shop_53 : decode cX7_shop 53 = .ok (.iconst 3, 1) := by decide +kernel
theorem dX7_shop_54 : decode cX7_shop 54 = .ok (.if_icmp .lt 6, 3) := by decide +kernel
theorem dX7_shop_57 : decode cX7_shop 57 = .ok (.bipush (-104), 2) := by decide +kernel
theorem dX7_shop_59 : decode cX7_shop 59 = .ok (.ireturn, 1) := by decide +kernel
theorem dX7_shop_60 : decode cX7_shop 60 = .ok (.aload_n 0, 1) := by decide +kernel
theorem dX7_shop_61 : decode cX7_shop 61 = .ok (.getfield 10, 3) := by decide +kernel
theorem dX7_shop_64 : decode cX7_shop 64 = .ok (.iload_n 2, 1) := by decide +kernel
theorem dX7_shop_65 : decode cX7_shop 65 = .ok (.iload_n 3, 1) := by decide +kernel
theorem dX7_shop_66 : decode cX7_shop 66 = .ok (.invokevirtual 92, 3) := by decide +kernel
theorem dX7_shop_69 : decode cX7_shop 69 = .ok (.istore 5, 2) := by decide +kernel
theorem dX7_shop_71 : decode cX7_shop 71 = .ok (.iload 5, 2) := by decide +kernel
theorem dX7_shop_73 : decode cX7_shop 73 = .ok (.bipush (-104), 2) := by decide +kernel
theorem dX7_shop_75 : decode cX7_shop 75 = .ok (.if_icmp .eq 26, 3) := by decide +kernel
theorem dX7_shop_78 : decode cX7_shop 78 = .ok (.aload_n 0, 1) := by decide +kernel
theorem dX7_shop_79 : decode cX7_shop 79 = .ok (.getfield 21, 3) := by decide +kernel
theorem dX7_shop_82 : decode cX7_shop 82 = .ok (.getfield 95, 3) := by decide +kernel
theorem dX7_shop_85 : decode cX7_shop 85 = .ok (.iload 5, 2) := by decide +kernel
theorem dX7_shop_87 : decode cX7_shop 87 = .ok (.iload_n 1, 1) := by decide +kernel
theorem dX7_shop_88 : decode cX7_shop 88 = .ok (.iastore, 1) := by decide +kernel
theorem dX7_shop_89 : decode cX7_shop 89 = .ok (.aload_n 0, 1) := by decide +kernel
theorem dX7_shop_90 : decode cX7_shop 90 = .ok (.getfield 21, 3) := by decide +kernel
theorem dX7_shop_93 : decode cX7_shop 93 = .ok (.getfield 98, 3) := by decide +kernel
theorem dX7_shop_96 : decode cX7_shop 96 = .ok (.iload 5, 2) := by decide +kernel
theorem dX7_shop_98 : decode cX7_shop 98 = .ok (.iload 4, 2) := by decide +kernel
theorem dX7_shop_100 : decode cX7_shop 100 = .ok (.iastore, 1) := by decide +kernel
theorem dX7_shop_101 : decode cX7_shop 101 = .ok (.iload 5, 2) := by decide +kernel
theorem dX7_shop_103 : decode cX7_shop 103 = .ok (.ireturn, 1) := by decide +kernel
theorem dX7_isNoShop_0 : decode cX7_isNoShop 0 = .ok (.iload_n 1, 1) := by decide +kernel
theorem dX7_isNoShop_1 : decode cX7_isNoShop 1 = .ok (.iconst 0, 1) := by decide +kernel
theorem dX7_isNoShop_2 : decode cX7_isNoShop 2 = .ok (.aload_n 0, 1) := by decide +kernel
theorem dX7_isNoShop_3 : decode cX7_isNoShop 3 = .ok (.getfield 10, 3) := by decide +kernel
theorem dX7_isNoShop_6 : decode cX7_isNoShop 6 = .ok (.getfield 175, 3) := by decide +kernel
theorem dX7_isNoShop_9 : decode cX7_isNoShop 9 = .ok (.iconst 1, 1) := by decide +kernel
theorem dX7_isNoShop_10 : decode cX7_isNoShop 10 = .ok (.isub, 1) := by decide +kernel
theorem dX7_isNoShop_11 : decode cX7_isNoShop 11 = .ok (.invokestatic 72, 3) := by decide +kernel
theorem dX7_isNoShop_14 : decode cX7_isNoShop 14 = .ok (.ireturn, 1) := by decide +kernel
theorem dX7_about_0 : decode cX7_about 0 = .ok (.aload_n 0, 1) := by decide +kernel
theorem dX7_about_1 : decode cX7_about 1 = .ok (.iload_n 1, 1) := by decide +kernel
theorem dX7_about_2 : decode cX7_about 2 = .ok (.invokevirtual 101, 3) := by decide +kernel
theorem dX7_about_5 : decode cX7_about 5 = .ok (.ifCond .eq 6, 3) := by decide +kernel
theorem dX7_about_8 : decode cX7_about 8 = .ok (.bipush (-101), 2) := by decide +kernel
theorem dX7_about_10 : decode cX7_about 10 = .ok (.ireturn, 1) := by decide +kernel
theorem dX7_about_11 : decode cX7_about 11 = .ok (.iload_n 2, 1) := by decide +kernel
theorem dX7_about_12 : decode cX7_about 12 = .ok (.tableswitch 108 0 5 #[40, 50, 60, 70, 80, 97], 40) := by decide +kernel
theorem dX7_about_52 : decode cX7_about 52 = .ok (.aload_n 0, 1) := by decide +kernel
theorem dX7_about_53 : decode cX7_about 53 = .ok (.getfield 21, 3) := by decide +kernel
theorem dX7_about_56 : decode cX7_about 56 = .ok (.getfield 95, 3) := by decide +kernel
theorem dX7_about_59 : decode cX7_about 59 = .ok (.iload_n 1, 1) := by decide +kernel
theorem dX7_about_60 : decode cX7_about 60 = .ok (.iaload, 1) := by decide +kernel
theorem dX7_about_61 : decode cX7_about 61 = .ok (.ireturn, 1) := by decide +kernel
theorem dX7_about_62 : decode cX7_about 62 = .ok (.aload_n 0, 1) := by decide +kernel
theorem dX7_about_63 : decode cX7_about 63 = .ok (.getfield 10, 3) := by decide +kernel
theorem dX7_about_66 : decode cX7_about 66 = .ok (.getfield 104, 3) := by decide +kernel
theorem dX7_about_69 : decode cX7_about 69 = .ok (.iload_n 1, 1) := by decide +kernel
theorem dX7_about_70 : decode cX7_about 70 = .ok (.iaload, 1) := by decide +kernel
theorem dX7_about_71 : decode cX7_about 71 = .ok (.ireturn, 1) := by decide +kernel
theorem dX7_about_72 : decode cX7_about 72 = .ok (.aload_n 0, 1) := by decide +kernel
theorem dX7_about_73 : decode cX7_about 73 = .ok (.getfield 10, 3) := by decide +kernel
theorem dX7_about_76 : decode cX7_about 76 = .ok (.getfield 107, 3) := by decide +kernel
theorem dX7_about_79 : decode cX7_about 79 = .ok (.iload_n 1, 1) := by decide +kernel
theorem dX7_about_80 : decode cX7_about 80 = .ok (.iaload, 1) := by decide +kernel
theorem dX7_about_81 : decode cX7_about 81 = .ok (.ireturn, 1) := by decide +kernel
theorem dX7_about_82 : decode cX7_about 82 = .ok (.aload_n 0, 1) := by decide +kernel
theorem dX7_about_83 : decode cX7_about 83 = .ok (.getfield 21, 3) := by decide +kernel
theorem dX7_about_86 : decode cX7_about 86 = .ok (.getfield 98, 3) := by decide +kernel
theorem dX7_about_89 : decode cX7_about 89 = .ok (.iload_n 1, 1) := by decide +kernel
theorem dX7_about_90 : decode cX7_about 90 = .ok (.iaload, 1) := by decide +kernel
theorem dX7_about_91 : decode cX7_about 91 = .ok (.ireturn, 1) := by decide +kernel
theorem dX7_about_92 : decode cX7_about 92 = .ok (.aload_n 0, 1) := by decide +kernel
theorem dX7_about_93 : decode cX7_about 93 = .ok (.getfield 21, 3) := by decide +kernel
theorem dX7_about_96 : decode cX7_about 96 = .ok (.iload_n 1, 1) := by decide +kernel
theorem dX7_about_97 : decode cX7_about 97 = .ok (.invokevirtual 110, 3) := by decide +kernel
theorem dX7_about_100 : decode cX7_about 100 = .ok (.ifCond .eq 7, 3) := by decide +kernel
theorem dX7_about_103 : decode cX7_about 103 = .ok (.iconst 1, 1) := by decide +kernel
theorem dX7_about_104 : decode cX7_about 104 = .ok (.goto 4, 3) := by decide +kernel
theorem dX7_about_107 : decode cX7_about 107 = .ok (.iconst 0, 1) := by decide +kernel
theorem dX7_about_108 : decode cX7_about 108 = .ok (.ireturn, 1) := by decide +kernel
theorem dX7_about_109 : decode cX7_about 109 = .ok (.aload_n 0, 1) := by decide +kernel
theorem dX7_about_110 : decode cX7_about 110 = .ok (.getfield 21, 3) := by decide +kernel
theorem dX7_about_113 : decode cX7_about 113 = .ok (.iconst 1, 1) := by decide +kernel
theorem dX7_about_114 : decode cX7_about 114 = .ok (.iload_n 1, 1) := by decide +kernel
theorem dX7_about_115 : decode cX7_about 115 = .ok (.ishl, 1) := by decide +kernel
theorem dX7_about_116 : decode cX7_about 116 = .ok (.invokevirtual 113, 3) := by decide +kernel
theorem dX7_about_119 : decode cX7_about 119 = .ok (.ireturn, 1) := by decide +kernel
theorem dX7_about_120 : decode cX7_about 120 = .ok (.bipush (-102), 2) := by decide +kernel
theorem dX7_about_122 : decode cX7_about 122 = .ok (.ireturn, 1) := by decide +kernel
theorem dX7_price_0 : decode cX7_price 0 = .ok (.aload_n 0, 1) := by decide +kernel
theorem dX7_price_1 : decode cX7_price 1 = .ok (.iload_n 1, 1) := by decide +kernel
theorem dX7_price_2 : decode cX7_price 2 = .ok (.invokevirtual 101, 3) := by decide +kernel
theorem dX7_price_5 : decode cX7_price 5 = .ok (.ifCond .eq 6, 3) := by decide +kernel
theorem dX7_price_8 : decode cX7_price 8 = .ok (.bipush (-101), 2) := by decide +kernel
theorem dX7_price_10 : decode cX7_price 10 = .ok (.ireturn, 1) := by decide +kernel
theorem dX7_price_11 : decode cX7_price 11 = .ok (.iload_n 2, 1) := by decide +kernel
theorem dX7_price_12 : decode cX7_price 12 = .ok (.iconst 0, 1) := by decide +kernel
theorem dX7_price_13 : decode cX7_price 13 = .ok (.bipush 9, 2) := by decide +kernel
theorem dX7_price_15 : decode cX7_price 15 = .ok (.invokestatic 72, 3) := by decide +kernel
theorem dX7_price_18 : decode cX7_price 18 = .ok (.ifCond .eq 6, 3) := by decide +kernel
theorem dX7_price_21 : decode cX7_price 21 = .ok (.bipush (-102), 2) := by decide +kernel
theorem dX7_price_23 : decode cX7_price 23 = .ok (.ireturn, 1) := by decide +kernel
theorem dX7_price_24 : decode cX7_price 24 = .ok (.aload_n 0, 1) := by decide +kernel
theorem dX7_price_25 : decode cX7_price 25 = .ok (.getfield 21, 3) := by decide +kernel
theorem dX7_price_28 : decode cX7_price 28 = .ok (.getfield 98, 3) := by decide +kernel
theorem dX7_price_31 : decode cX7_price 31 = .ok (.iload_n 1, 1) := by decide +kernel
theorem dX7_price_32 : decode cX7_price 32 = .ok (.iaload, 1) := by decide +kernel
theorem dX7_price_33 : decode cX7_price 33 = .ok (.istore_n 3, 1) := by decide +kernel
theorem dX7_price_34 : decode cX7_price 34 = .ok (.aload_n 0, 1) := by decide +kernel
theorem dX7_price_35 : decode cX7_price 35 = .ok (.getfield 21, 3) := by decide +kernel
theorem dX7_price_38 : decode cX7_price 38 = .ok (.getfield 98, 3) := by decide +kernel
theorem dX7_price_41 : decode cX7_price 41 = .ok (.iload_n 1, 1) := by decide +kernel
theorem dX7_price_42 : decode cX7_price 42 = .ok (.iload_n 2, 1) := by decide +kernel
theorem dX7_price_43 : decode cX7_price 43 = .ok (.iastore, 1) := by decide +kernel
theorem dX7_price_44 : decode cX7_price 44 = .ok (.iload_n 3, 1) := by decide +kernel
theorem dX7_price_45 : decode cX7_price 45 = .ok (.ireturn, 1) := by decide +kernel
theorem dX7_sort_0 : decode cX7_sort 0 = .ok (.iload_n 1, 1) := by decide +kernel
theorem dX7_sort_1 : decode cX7_sort 1 = .ok (.iconst 0, 1) := by decide +kernel
theorem dX7_sort_2 : decode cX7_sort 2 = .ok (.bipush 9, 2) := by decide +kernel
theorem dX7_sort_4 : decode cX7_sort 4 = .ok (.invokestatic 72, 3) := by decide +kernel
theorem dX7_sort_7 : decode cX7_sort 7 = .ok (.ifCond .ne 44, 3) := by decide +kernel
theorem dX7_sort_10 : decode cX7_sort 10 = .ok (.iload_n 2, 1) := by decide +kernel
theorem dX7_sort_11 : decode cX7_sort 11 = .ok (.iconst 1, 1) := by decide +kernel
theorem dX7_sort_12 : decode cX7_sort 12 = .ok (.bipush 50, 2) := by decide +kernel
theorem dX7_sort_14 : decode cX7_sort 14 = .ok (.invokestatic 72, 3) := by decide +kernel
theorem dX7_sort_17 : decode cX7_sort 17 = .ok (.ifCond .ne 34, 3) := by decide +kernel
theorem dX7_sort_20 : decode cX7_sort 20 = .ok (.iload_n 3, 1) := by decide +kernel
theorem dX7_sort_21 : decode cX7_sort 21 = .ok (.iconst 0, 1) := by decide +kernel
theorem dX7_sort_22 : decode cX7_sort 22 = .ok (.iconst 5, 1) := by decide +kernel
theorem dX7_sort_23 : decode cX7_sort 23 = .ok (.invokestatic 72, 3) := by decide +kernel
theorem dX7_sort_26 : decode cX7_sort 26 = .ok (.ifCond .ne 25, 3) := by decide +kernel
theorem dX7_sort_29 : decode cX7_sort 29 = .ok (.iload 4, 2) := by decide +kernel
theorem dX7_sort_31 : decode cX7_sort 31 = .ok (.iconst 0, 1) := by decide +kernel
theorem dX7_sort_32 : decode cX7_sort 32 = .ok (.bipush 30, 2) := by decide +kernel
theorem dX7_sort_34 : decode cX7_sort 34 = .ok (.invokestatic 72, 3) := by decide +kernel
theorem dX7_sort_37 : decode cX7_sort 37 = .ok (.ifCond .ne 14, 3) := by decide +kernel
theorem dX7_sort_40 : decode cX7_sort 40 = .ok (.iload 6, 2) := by decide +kernel
theorem dX7_sort_42 : decode cX7_sort 42 = .ok (.iconst 0, 1) := by decide +kernel
theorem dX7_sort_43 : decode cX7_sort 43 = .ok (.bipush 9, 2) := by decide +kernel
theorem dX7_sort_45 : decode cX7_sort 45 = .ok (.invokestatic 72, 3) := by decide +kernel
theorem dX7_sort_48 : decode cX7_sort 48 = .ok (.ifCond .eq 6, 3) := by decide +kernel
theorem dX7_sort_51 : decode cX7_sort 51 = .ok (.bipush (-102), 2) := by decide +kernel
theorem dX7_sort_53 : decode cX7_sort 53 = .ok (.ireturn, 1) := by decide +kernel
theorem dX7_sort_54 : decode cX7_sort 54 = .ok (.iload 5, 2) := by decide +kernel
theorem dX7_sort_56 : decode cX7_sort 56 = .ok (.iconst (-1), 1) := by decide +kernel
theorem dX7_sort_57 : decode cX7_sort 57 = .ok (.if_icmp .eq 15, 3) := by decide +kernel
theorem dX7_sort_60 : decode cX7_sort 60 = .ok (.aload_n 0, 1) := by decide +kernel
theorem dX7_sort_61 : decode cX7_sort 61 = .ok (.iload 5, 2) := by decide +kernel
theorem dX7_sort_63 : decode cX7_sort 63 = .ok (.invokevirtual 101, 3) := by decide +kernel
theorem dX7_sort_66 : decode cX7_sort 66 = .ok (.ifCond .eq 6, 3) := by decide +kernel
theorem dX7_sort_69 : decode cX7_sort 69 = .ok (.bipush (-101), 2) := by decide +kernel
theorem dX7_sort_71 : decode cX7_sort 71 = .ok (.ireturn, 1) := by decide +kernel
theorem dX7_sort_72 : decode cX7_sort 72 = .ok (.aload_n 0, 1) := by decide +kernel
theorem dX7_sort_73 : decode cX7_sort 73 = .ok (.getfield 10, 3) := by decide +kernel
theorem dX7_sort_76 : decode cX7_sort 76 = .ok (.iload_n 1, 1) := by decide +kernel
theorem dX7_sort_77 : decode cX7_sort 77 = .ok (.iload_n 2, 1) := by decide +kernel
theorem dX7_sort_78 : decode cX7_sort 78 = .ok (.iload_n 3, 1) := by decide +kernel
theorem dX7_sort_79 : decode cX7_sort 79 = .ok (.iload 4, 2) := by decide +kernel
theorem dX7_sort_81 : decode cX7_sort 81 = .ok (.iload 5, 2) := by decide +kernel
theorem dX7_sort_83 : decode cX7_sort 83 = .ok (.iload 6, 2) := by decide +kernel
theorem dX7_sort_85 : decode cX7_sort 85 = .ok (.invokevirtual 116, 3) := by decide +kernel
theorem dX7_sort_88 : decode cX7_sort 88 = .ok (.ireturn, 1) := by decide +kernel
theorem dX7_isNoSort_0 : decode cX7_isNoSort 0 = .ok (.iload_n 1, 1) := by decide +kernel
theorem dX7_isNoSort_1 : decode cX7_isNoSort 1 = .ok (.iconst 0, 1) := by decide +kernel
theorem dX7_isNoSort_2 : decode cX7_isNoSort 2 = .ok (.aload_n 0, 1) := by decide +kernel
theorem dX7_isNoSort_3 : decode cX7_isNoSort 3 = .ok (.getfield 10, 3) := by decide +kernel
theorem dX7_isNoSort_6 : decode cX7_isNoSort 6 = .ok (.getfield 202, 3) := by decide +kernel
theorem dX7_isNoSort_9 : decode cX7_isNoSort 9 = .ok (.iconst 1, 1) := by decide +kernel
theorem dX7_isNoSort_10 : decode cX7_isNoSort 10 = .ok (.isub, 1) := by decide +kernel
theorem dX7_isNoSort_11 : decode cX7_isNoSort 11 = .ok (.invokestatic 72, 3) := by decide +kernel
theorem dX7_isNoSort_14 : decode cX7_isNoSort 14 = .ok (.ireturn, 1) := by decide +kernel
theorem dX7_is_0 : decode cX7_is 0 = .ok (.aload_n 0, 1) := by decide +kernel
theorem dX7_is_1 : decode cX7_is 1 = .ok (.iload_n 1, 1) := by decide +kernel
theorem dX7_is_2 : decode cX7_is 2 = .ok (.invokevirtual 120, 3) := by decide +kernel
theorem dX7_is_5 : decode cX7_is 5 = .ok (.ifCond .ne 11, 3) := by decide +kernel
theorem dX7_is_8 : decode cX7_is 8 = .ok (.aload_n 0, 1) := by decide +kernel
theorem dX7_is_9 : decode cX7_is 9 = .ok (.iload_n 2, 1) := by decide +kernel
theorem dX7_is_10 : decode cX7_is 10 = .ok (.invokevirtual 101, 3) := by decide +kernel
theorem dX7_is_13 : decode cX7_is 13 = .ok (.ifCond .eq 9, 3) := by decide +kernel
theorem dX7_is_16 : decode cX7_is 16 = .ok (.sipush (-1001), 3) := by decide +kernel
theorem dX7_is_19 : decode cX7_is 19 = .ok (.goto 12, 3) := by decide +kernel
theorem dX7_is_22 : decode cX7_is 22 = .ok (.aload_n 0, 1) := by decide +kernel
theorem dX7_is_23 : decode cX7_is 23 = .ok (.getfield 21, 3) := by decide +kernel
theorem dX7_is_26 : decode cX7_is 26 = .ok (.iload_n 1, 1) := by decide +kernel
theorem dX7_is_27 : decode cX7_is 27 = .ok (.iload_n 2, 1) := by decide +kernel
theorem dX7_is_28 : decode cX7_is 28 = .ok (.invokevirtual 123, 3) := by decide +kernel
theorem dX7_is_31 : decode cX7_is 31 = .ok (.ireturn, 1) := by decide +kernel
theorem dX7_goes_0 : decode cX7_goes 0 = .ok (.aload_n 0, 1) := by decide +kernel
theorem dX7_goes_1 : decode cX7_goes 1 = .ok (.iload_n 1, 1) := by decide +kernel
theorem dX7_goes_2 : decode cX7_goes 2 = .ok (.invokevirtual 120, 3) := by decide +kernel
theorem dX7_goes_5 : decode cX7_goes 5 = .ok (.ifCond .eq 8, 3) := by decide +kernel
theorem dX7_goes_8 : decode cX7_goes 8 = .ok (.bipush (-101), 2) := by decide +kernel
theorem dX7_goes_10 : decode cX7_goes 10 = .ok (.goto 12, 3) := by decide +kernel
theorem dX7_goes_13 : decode cX7_goes 13 = .ok (.aload_n 0, 1) := by decide +kernel
theorem dX7_goes_14 : decode cX7_goes 14 = .ok (.getfield 21, 3) := by decide +kernel
theorem dX7_goes_17 : decode cX7_goes 17 = .ok (.iload_n 1, 1) := by decide +kernel
theorem dX7_goes_18 : decode cX7_goes 18 = .ok (.iconst (-1), 1) := by decide +kernel
theorem dX7_goes_19 : decode cX7_goes 19 = .ok (.invokevirtual 126, 3) := by decide +kernel
theorem dX7_goes_22 : decode cX7_goes 22 = .ok (.ireturn, 1) := by decide +kernel
theorem dX7_spare_0 : decode cX7_spare 0 = .ok (.aload_n 0, 1) := by decide +kernel
theorem dX7_spare_1 : decode cX7_spare 1 = .ok (.iload_n 1, 1) := by decide +kernel
theorem dX7_spare_2 : decode cX7_spare 2 = .ok (.invokevirtual 120, 3) := by decide +kernel
theorem dX7_spare_5 : decode cX7_spare 5 = .ok (.ifCond .eq 8, 3) := by decide +kernel
theorem dX7_spare_8 : decode cX7_spare 8 = .ok (.bipush (-101), 2) := by decide +kernel
theorem dX7_spare_10 : decode cX7_spare 10 = .ok (.goto 11, 3) := by decide +kernel
theorem dX7_spare_13 : decode cX7_spare 13 = .ok (.aload_n 0, 1) := by decide +kernel
theorem dX7_spare_14 : decode cX7_spare 14 = .ok (.getfield 21, 3) := by decide +kernel
theorem dX7_spare_17 : decode cX7_spare 17 = .ok (.iload_n 1, 1) := by decide +kernel
theorem dX7_spare_18 : decode cX7_spare 18 = .ok (.invokevirtual 129, 3) := by decide +kernel
theorem dX7_spare_21 : decode cX7_spare 21 = .ok (.ireturn, 1) := by decide +kernel
theorem dX7_profit_0 : decode cX7_profit 0 = .ok (.aload_n 0, 1) := by decide +kernel
theorem dX7_profit_1 : decode cX7_profit 1 = .ok (.iload_n 1, 1) := by decide +kernel
theorem dX7_profit_2 : decode cX7_profit 2 = .ok (.invokevirtual 80, 3) := by decide +kernel
theorem dX7_profit_5 : decode cX7_profit 5 = .ok (.ifCond .eq 8, 3) := by decide +kernel
theorem dX7_profit_8 : decode cX7_profit 8 = .ok (.ldc 132, 2) := by decide +kernel
theorem dX7_profit_10 : decode cX7_profit 10 = .ok (.goto 11, 3) := by decide +kernel
theorem dX7_profit_13 : decode cX7_profit 13 = .ok (.aload_n 0, 1) := by decide +kernel
theorem dX7_profit_14 : decode cX7_profit 14 = .ok (.getfield 21, 3) := by decide +kernel
theorem dX7_profit_17 : decode cX7_profit 17 = .ok (.iload_n 1, 1) := by decide +kernel
theorem dX7_profit_18 : decode cX7_profit 18 = .ok (.invokevirtual 133, 3) := by decide +kernel
theorem dX7_profit_21 : decode cX7_profit 21 = .ok (.ireturn, 1) := by decide +kernel
theorem dX7_best_0 : decode cX7_best 0 = .ok (.aload_n 0, 1) := by decide +kernel
theorem dX7_best_1 : decode cX7_best 1 = .ok (.iload_n 1, 1) := by decide +kernel
theorem dX7_best_2 : decode cX7_best 2 = .ok (.invokevirtual 101, 3) := by decide +kernel
theorem dX7_best_5 : decode cX7_best 5 = .ok (.ifCond .eq 6, 3) := by decide +kernel
theorem dX7_best_8 : decode cX7_best 8 = .ok (.bipush (-101), 2) := by decide +kernel
theorem dX7_best_10 : decode cX7_best 10 = .ok (.ireturn, 1) := by decide +kernel
theorem dX7_best_11 : decode cX7_best 11 = .ok (.iload_n 2, 1) := by decide +kernel
theorem dX7_best_12 : decode cX7_best 12 = .ok (.iconst 0, 1) := by decide +kernel
theorem dX7_best_13 : decode cX7_best 13 = .ok (.iconst 1, 1) := by decide +kernel
theorem dX7_best_14 : decode cX7_best 14 = .ok (.invokestatic 72, 3) := by decide +kernel
theorem dX7_best_17 : decode cX7_best 17 = .ok (.ifCond .eq 6, 3) := by decide +kernel
theorem dX7_best_20 : decode cX7_best 20 = .ok (.bipush (-102), 2) := by decide +kernel
theorem dX7_best_22 : decode cX7_best 22 = .ok (.ireturn, 1) := by decide +kernel
theorem dX7_best_23 : decode cX7_best 23 = .ok (.aload_n 0, 1) := by decide +kernel
theorem dX7_best_24 : decode cX7_best 24 = .ok (.getfield 21, 3) := by decide +kernel
theorem dX7_best_27 : decode cX7_best 27 = .ok (.getfield 95, 3) := by decide +kernel
theorem dX7_best_30 : decode cX7_best 30 = .ok (.iload_n 1, 1) := by decide +kernel
theorem dX7_best_31 : decode cX7_best 31 = .ok (.iaload, 1) := by decide +kernel
theorem dX7_best_32 : decode cX7_best 32 = .ok (.istore_n 3, 1) := by decide +kernel
theorem dX7_best_33 : decode cX7_best 33 = .ok (.aload_n 0, 1) := by decide +kernel
theorem dX7_best_34 : decode cX7_best 34 = .ok (.getfield 34, 3) := by decide +kernel
theorem dX7_best_37 : decode cX7_best 37 = .ok (.aload_n 0, 1) := by decide +kernel
theorem dX7_best_38 : decode cX7_best 38 = .ok (.getfield 21, 3) := by decide +kernel
theorem dX7_best_41 : decode cX7_best 41 = .ok (.iload_n 3, 1) := by decide +kernel
theorem dX7_best_42 : decode cX7_best 42 = .ok (.invokevirtual 136, 3) := by decide +kernel
theorem dX7_best_45 : decode cX7_best 45 = .ok (.iload_n 2, 1) := by decide +kernel
theorem dX7_best_46 : decode cX7_best 46 = .ok (.ifCond .ne 12, 3) := by decide +kernel
theorem dX7_best_49 : decode cX7_best 49 = .ok (.aload_n 0, 1) := by decide +kernel
theorem dX7_best_50 : decode cX7_best 50 = .ok (.getfield 34, 3) := by decide +kernel
theorem dX7_best_53 : decode cX7_best 53 = .ok (.iload_n 1, 1) := by decide +kernel
theorem dX7_best_54 : decode cX7_best 54 = .ok (.invokevirtual 140, 3) := by decide +kernel
theorem dX7_best_57 : decode cX7_best 57 = .ok (.ireturn, 1) := by decide +kernel
theorem dX7_best_58 : decode cX7_best 58 = .ok (.aload_n 0, 1) := by decide +kernel
theorem dX7_best_59 : decode cX7_best 59 = .ok (.getfield 10, 3) := by decide +kernel
theorem dX7_best_62 : decode cX7_best 62 = .ok (.getfield 84, 3) := by decide +kernel
theorem dX7_best_65 : decode cX7_best 65 = .ok (.iload_n 3, 1) := by decide +kernel
theorem dX7_best_66 : decode cX7_best 66 = .ok (.iaload, 1) := by decide +kernel
theorem dX7_best_67 : decode cX7_best 67 = .ok (.iconst 4, 1) := by decide +kernel
theorem dX7_best_68 : decode cX7_best 68 = .ok (.if_icmp .ne 13, 3) := by decide +kernel
theorem dX7_best_71 : decode cX7_best 71 = .ok (.aload_n 0, 1) := by decide +kernel
theorem dX7_best_72 : decode cX7_best 72 = .ok (.getfield 34, 3) := by decide +kernel
theorem dX7_best_75 : decode cX7_best 75 = .ok (.getfield 143, 3) := by decide +kernel
theorem dX7_best_78 : decode cX7_best 78 = .ok (.ifCond .eq 7, 3) := by decide +kernel
theorem dX7_best_81 : decode cX7_best 81 = .ok (.iconst 1, 1) := by decide +kernel
theorem dX7_best_82 : decode cX7_best 82 = .ok (.goto 4, 3) := by decide +kernel
theorem dX7_best_85 : decode cX7_best 85 = .ok (.iconst 0, 1) := by decide +kernel
theorem dX7_best_86 : decode cX7_best 86 = .ok (.ireturn, 1) := by decide +kernel
theorem dX7_turn_0 : decode cX7_turn 0 = .ok (.aload_n 0, 1) := by decide +kernel
theorem dX7_turn_1 : decode cX7_turn 1 = .ok (.iload_n 1, 1) := by decide +kernel
theorem dX7_turn_2 : decode cX7_turn 2 = .ok (.invokevirtual 80, 3) := by decide +kernel
theorem dX7_turn_5 : decode cX7_turn 5 = .ok (.ifCond .eq 6, 3) := by decide +kernel
theorem dX7_turn_8 : decode cX7_turn 8 = .ok (.bipush (-101), 2) := by decide +kernel
theorem dX7_turn_10 : decode cX7_turn 10 = .ok (.ireturn, 1) := by decide +kernel
theorem dX7_turn_11 : decode cX7_turn 11 = .ok (.aload_n 0, 1) := by decide +kernel
theorem dX7_turn_12 : decode cX7_turn 12 = .ok (.getfield 34, 3) := by decide +kernel
theorem dX7_turn_15 : decode cX7_turn 15 = .ok (.aload_n 0, 1) := by decide +kernel
theorem dX7_turn_16 : decode cX7_turn 16 = .ok (.getfield 21, 3) := by decide +kernel
theorem dX7_turn_19 : decode cX7_turn 19 = .ok (.iload_n 1, 1) := by decide +kernel
theorem dX7_turn_20 : decode cX7_turn 20 = .ok (.invokevirtual 136, 3) := by decide +kernel
theorem dX7_turn_23 : decode cX7_turn 23 = .ok (.aload_n 0, 1) := by decide +kernel
theorem dX7_turn_24 : decode cX7_turn 24 = .ok (.getfield 34, 3) := by decide +kernel
theorem dX7_turn_27 : decode cX7_turn 27 = .ok (.aload_n 0, 1) := by decide +kernel
theorem dX7_turn_28 : decode cX7_turn 28 = .ok (.getfield 21, 3) := by decide +kernel
theorem dX7_turn_31 : decode cX7_turn 31 = .ok (.iload_n 1, 1) := by decide +kernel
theorem dX7_turn_32 : decode cX7_turn 32 = .ok (.invokevirtual 147, 3) := by decide +kernel
theorem dX7_turn_35 : decode cX7_turn 35 = .ok (.ireturn, 1) := by decide +kernel
theorem dX7_rest_0 : decode cX7_rest 0 = .ok (.aload_n 0, 1) := by decide +kernel
theorem dX7_rest_1 : decode cX7_rest 1 = .ok (.getfield 25, 3) := by decide +kernel
theorem dX7_rest_4 : decode cX7_rest 4 = .ok (.aload_n 0, 1) := by decide +kernel
theorem dX7_rest_5 : decode cX7_rest 5 = .ok (.getfield 21, 3) := by decide +kernel
theorem dX7_rest_8 : decode cX7_rest 8 = .ok (.invokevirtual 151, 3) := by decide +kernel
theorem dX7_rest_11 : decode cX7_rest 11 = .ok (.aload_n 0, 1) := by decide +kernel
theorem dX7_rest_12 : decode cX7_rest 12 = .ok (.getfield 34, 3) := by decide +kernel
theorem dX7_rest_15 : decode cX7_rest 15 = .ok (.aload_n 0, 1) := by decide +kernel
theorem dX7_rest_16 : decode cX7_rest 16 = .ok (.getfield 25, 3) := by decide +kernel
theorem dX7_rest_19 : decode cX7_rest 19 = .ok (.invokevirtual 155, 3) := by decide +kernel
theorem dX7_rest_22 : decode cX7_rest 22 = .ok (.istore_n 1, 1) := by decide +kernel
theorem dX7_rest_23 : decode cX7_rest 23 = .ok (.iload_n 1, 1) := by decide +kernel
theorem dX7_rest_24 : decode cX7_rest 24 = .ok (.iconst (-1), 1) := by decide +kernel
theorem dX7_rest_25 : decode cX7_rest 25 = .ok (.if_icmp .ne 6, 3) := by decide +kernel
theorem dX7_rest_28 : decode cX7_rest 28 = .ok (.bipush (-103), 2) := by decide +kernel
theorem dX7_rest_30 : decode cX7_rest 30 = .ok (.ireturn, 1) := by decide +kernel
theorem dX7_rest_31 : decode cX7_rest 31 = .ok (.aload_n 0, 1) := by decide +kernel
theorem dX7_rest_32 : decode cX7_rest 32 = .ok (.getfield 21, 3) := by decide +kernel
theorem dX7_rest_35 : decode cX7_rest 35 = .ok (.aload_n 0, 1) := by decide +kernel
theorem dX7_rest_36 : decode cX7_rest 36 = .ok (.getfield 25, 3) := by decide +kernel
theorem dX7_rest_39 : decode cX7_rest 39 = .ok (.invokevirtual 151, 3) := by decide +kernel
theorem dX7_rest_42 : decode cX7_rest 42 = .ok (.iload_n 1, 1) := by decide +kernel
theorem dX7_rest_43 : decode cX7_rest 43 = .ok (.ireturn, 1) := by decide +kernel
theorem dX7_gainOf_0 : decode cX7_gainOf 0 = .ok (.aload_n 0, 1) := by decide +kernel
theorem dX7_gainOf_1 : decode cX7_gainOf 1 = .ok (.getfield 34, 3) := by decide +kernel
theorem dX7_gainOf_4 : decode cX7_gainOf 4 = .ok (.aload_n 0, 1) := by decide +kernel
theorem dX7_gainOf_5 : decode cX7_gainOf 5 = .ok (.getfield 21, 3) := by decide +kernel
theorem dX7_gainOf_8 : decode cX7_gainOf 8 = .ok (.iload_n 1, 1) := by decide +kernel
theorem dX7_gainOf_9 : decode cX7_gainOf 9 = .ok (.invokevirtual 136, 3) := by decide +kernel
theorem dX7_gainOf_12 : decode cX7_gainOf 12 = .ok (.aload_n 0, 1) := by decide +kernel
theorem dX7_gainOf_13 : decode cX7_gainOf 13 = .ok (.getfield 34, 3) := by decide +kernel
theorem dX7_gainOf_16 : decode cX7_gainOf 16 = .ok (.getfield 166, 3) := by decide +kernel
theorem dX7_gainOf_19 : decode cX7_gainOf 19 = .ok (.aload_n 0, 1) := by decide +kernel
theorem dX7_gainOf_20 : decode cX7_gainOf 20 = .ok (.getfield 21, 3) := by decide +kernel
theorem dX7_gainOf_23 : decode cX7_gainOf 23 = .ok (.iload_n 1, 1) := by decide +kernel
theorem dX7_gainOf_24 : decode cX7_gainOf 24 = .ok (.invokevirtual 133, 3) := by decide +kernel
theorem dX7_gainOf_27 : decode cX7_gainOf 27 = .ok (.isub, 1) := by decide +kernel
theorem dX7_gainOf_28 : decode cX7_gainOf 28 = .ok (.ireturn, 1) := by decide +kernel
theorem dX7_otherwise_0 : decode cX7_otherwise 0 = .ok (.iconst 0, 1) := by decide +kernel
theorem dX7_otherwise_1 : decode cX7_otherwise 1 = .ok (.istore_n 1, 1) := by decide +kernel
theorem dX7_otherwise_2 : decode cX7_otherwise 2 = .ok (.iload_n 1, 1) := by decide +kernel
theorem dX7_otherwise_3 : decode cX7_otherwise 3 = .ok (.aload_n 0, 1) := by decide +kernel
theorem dX7_otherwise_4 : decode cX7_otherwise 4 = .ok (.getfield 10, 3) := by decide +kernel
theorem dX7_otherwise_7 : decode cX7_otherwise 7 = .ok (.getfield 159, 3) := by decide +kernel
theorem dX7_otherwise_10 : decode cX7_otherwise 10 = .ok (.if_icmp .ge 19, 3) := by decide +kernel
theorem dX7_otherwise_13 : decode cX7_otherwise 13 = .ok (.aload_n 0, 1) := by decide +kernel
theorem dX7_otherwise_14 : decode cX7_otherwise 14 = .ok (.iload_n 1, 1) := by decide +kernel
theorem dX7_otherwise_15 : decode cX7_otherwise 15 = .ok (.invokevirtual 163, 3) := by decide +kernel
theorem dX7_otherwise_18 : decode cX7_otherwise 18 = .ok (.ifCond .le 5, 3) := by decide +kernel
theorem dX7_otherwise_21 : decode cX7_otherwise 21 = .ok (.iload_n 1, 1) := by decide +kernel
theorem dX7_otherwise_22 : decode cX7_otherwise 22 = .ok (.ireturn, 1) := by decide +kernel
theorem dX7_otherwise_23 : decode cX7_otherwise 23 = .ok (.iinc 1 1, 3) := by decide +kernel
theorem dX7_otherwise_26 : decode cX7_otherwise 26 = .ok (.goto (-24), 3) := by decide +kernel
theorem dX7_otherwise_29 : decode cX7_otherwise 29 = .ok (.iconst (-1), 1) := by decide +kernel
theorem dX7_otherwise_30 : decode cX7_otherwise 30 = .ok (.ireturn, 1) := by decide +kernel
theorem dX7_gain_0 : decode cX7_gain 0 = .ok (.aload_n 0, 1) := by decide +kernel
theorem dX7_gain_1 : decode cX7_gain 1 = .ok (.iload_n 1, 1) := by decide +kernel
theorem dX7_gain_2 : decode cX7_gain 2 = .ok (.invokevirtual 80, 3) := by decide +kernel
theorem dX7_gain_5 : decode cX7_gain 5 = .ok (.ifCond .eq 8, 3) := by decide +kernel
theorem dX7_gain_8 : decode cX7_gain 8 = .ok (.ldc 132, 2) := by decide +kernel
theorem dX7_gain_10 : decode cX7_gain 10 = .ok (.goto 8, 3) := by decide +kernel
theorem dX7_gain_13 : decode cX7_gain 13 = .ok (.aload_n 0, 1) := by decide +kernel
theorem dX7_gain_14 : decode cX7_gain 14 = .ok (.iload_n 1, 1) := by decide +kernel
theorem dX7_gain_15 : decode cX7_gain 15 = .ok (.invokevirtual 163, 3) := by decide +kernel
theorem dX7_gain_18 : decode cX7_gain 18 = .ok (.ireturn, 1) := by decide +kernel
theorem dX7_instead_0 : decode cX7_instead 0 = .ok (.aload_n 0, 1) := by decide +kernel
theorem dX7_instead_1 : decode cX7_instead 1 = .ok (.iload_n 1, 1) := by decide +kernel
theorem dX7_instead_2 : decode cX7_instead 2 = .ok (.invokevirtual 120, 3) := by decide +kernel
theorem dX7_instead_5 : decode cX7_instead 5 = .ok (.ifCond .ne 11, 3) := by decide +kernel
theorem dX7_instead_8 : decode cX7_instead 8 = .ok (.aload_n 0, 1) := by decide +kernel
theorem dX7_instead_9 : decode cX7_instead 9 = .ok (.iload_n 2, 1) := by decide +kernel
theorem dX7_instead_10 : decode cX7_instead 10 = .ok (.invokevirtual 101, 3) := by decide +kernel
theorem dX7_instead_13 : decode cX7_instead 13 = .ok (.ifCond .eq 8, 3) := by decide +kernel
theorem dX7_instead_16 : decode cX7_instead 16 = .ok (.bipush (-101), 2) := by decide +kernel
theorem dX7_instead_18 : decode cX7_instead 18 = .ok (.goto 12, 3) := by decide +kernel
theorem dX7_instead_21 : decode cX7_instead 21 = .ok (.aload_n 0, 1) := by decide +kernel
theorem dX7_instead_22 : decode cX7_instead 22 = .ok (.getfield 21, 3) := by decide +kernel
theorem dX7_instead_25 : decode cX7_instead 25 = .ok (.iload_n 1, 1) := by decide +kernel
theorem dX7_instead_26 : decode cX7_instead 26 = .ok (.iload_n 2, 1) := by decide +kernel
theorem dX7_instead_27 : decode cX7_instead 27 = .ok (.invokevirtual 126, 3) := by decide +kernel
theorem dX7_instead_30 : decode cX7_instead 30 = .ok (.ireturn, 1) := by decide +kernel
theorem dX7_from_0 : decode cX7_from 0 = .ok (.aload_n 0, 1) := by decide +kernel
theorem dX7_from_1 : decode cX7_from 1 = .ok (.iload_n 1, 1) := by decide +kernel
theorem dX7_from_2 : decode cX7_from 2 = .ok (.invokevirtual 101, 3) := by decide +kernel
theorem dX7_from_5 : decode cX7_from 5 = .ok (.ifCond .ne 16, 3) := by decide +kernel
theorem dX7_from_8 : decode cX7_from 8 = .ok (.aload_n 0, 1) := by decide +kernel
theorem dX7_from_9 : decode cX7_from 9 = .ok (.iload_n 2, 1) := by decide +kernel
theorem dX7_from_10 : decode cX7_from 10 = .ok (.invokevirtual 101, 3) := by decide +kernel
theorem dX7_from_13 : decode cX7_from 13 = .ok (.ifCond .ne 8, 3) := by decide +kernel
theorem dX7_from_16 : decode cX7_from 16 = .ok (.iload_n 1, 1) := by decide +kernel
theorem dX7_from_17 : decode cX7_from 17 = .ok (.iload_n 2, 1) := by decide +kernel
theorem dX7_from_18 : decode cX7_from 18 = .ok (.if_icmp .ne 6, 3) := by decide +kernel
theorem dX7_from_21 : decode cX7_from 21 = .ok (.bipush (-101), 2) := by decide +kernel
theorem dX7_from_23 : decode cX7_from 23 = .ok (.ireturn, 1) := by decide +kernel
theorem dX7_from_24 : decode cX7_from 24 = .ok (.iconst 0, 1) := by decide +kernel
theorem dX7_from_25 : decode cX7_from 25 = .ok (.istore_n 3, 1) := by decide +kernel
theorem dX7_from_26 : decode cX7_from 26 = .ok (.iconst 0, 1) := by decide +kernel
theorem dX7_from_27 : decode cX7_from 27 = .ok (.istore 4, 2) := by decide +kernel
theorem dX7_from_29 : decode cX7_from 29 = .ok (.iload 4, 2) := by decide +kernel
theorem dX7_from_31 : decode cX7_from 31 = .ok (.aload_n 0, 1) := by decide +kernel
theorem dX7_from_32 : decode cX7_from 32 = .ok (.getfield 10, 3) := by decide +kernel
theorem dX7_from_35 : decode cX7_from 35 = .ok (.getfield 202, 3) := by decide +kernel
theorem dX7_from_38 : decode cX7_from 38 = .ok (.if_icmp .ge 50, 3) := by decide +kernel
theorem dX7_from_41 : decode cX7_from 41 = .ok (.aload_n 0, 1) := by decide +kernel
theorem dX7_from_42 : decode cX7_from 42 = .ok (.getfield 21, 3) := by decide +kernel
theorem dX7_from_45 : decode cX7_from 45 = .ok (.iload 4, 2) := by decide +kernel
theorem dX7_from_47 : decode cX7_from 47 = .ok (.iconst (-1), 1) := by decide +kernel
theorem dX7_from_48 : decode cX7_from 48 = .ok (.invokevirtual 126, 3) := by decide +kernel
theorem dX7_from_51 : decode cX7_from 51 = .ok (.iload_n 1, 1) := by decide +kernel
theorem dX7_from_52 : decode cX7_from 52 = .ok (.if_icmp .ne 30, 3) := by decide +kernel
theorem dX7_from_55 : decode cX7_from 55 = .ok (.aload_n 0, 1) := by decide +kernel
theorem dX7_from_56 : decode cX7_from 56 = .ok (.getfield 21, 3) := by decide +kernel
theorem dX7_from_59 : decode cX7_from 59 = .ok (.iload 4, 2) := by decide +kernel
theorem dX7_from_61 : decode cX7_from 61 = .ok (.iload_n 1, 1) := by decide +kernel
theorem dX7_from_62 : decode cX7_from 62 = .ok (.invokevirtual 126, 3) := by decide +kernel
theorem dX7_from_65 : decode cX7_from 65 = .ok (.iload_n 2, 1) := by decide +kernel
theorem dX7_from_66 : decode cX7_from 66 = .ok (.if_icmp .ne 16, 3) := by decide +kernel
theorem dX7_from_69 : decode cX7_from 69 = .ok (.iload_n 3, 1) := by decide +kernel
theorem dX7_from_70 : decode cX7_from 70 = .ok (.aload_n 0, 1) := by decide +kernel
theorem dX7_from_71 : decode cX7_from 71 = .ok (.getfield 10, 3) := by decide +kernel
theorem dX7_from_74 : decode cX7_from 74 = .ok (.getfield 205, 3) := by decide +kernel
theorem dX7_from_77 : decode cX7_from 77 = .ok (.iload 4, 2) := by decide +kernel
theorem dX7_from_79 : decode cX7_from 79 = .ok (.iaload, 1) := by decide +kernel
theorem dX7_from_80 : decode cX7_from 80 = .ok (.iadd, 1) := by decide +kernel
theorem dX7_from_81 : decode cX7_from 81 = .ok (.istore_n 3, 1) := by decide +kernel
theorem dX7_from_82 : decode cX7_from 82 = .ok (.iinc 4 1, 3) := by decide +kernel
theorem dX7_from_85 : decode cX7_from 85 = .ok (.goto (-56), 3) := by decide +kernel
theorem dX7_from_88 : decode cX7_from 88 = .ok (.iload_n 3, 1) := by decide +kernel
theorem dX7_from_89 : decode cX7_from 89 = .ok (.ireturn, 1) := by decide +kernel
theorem dX7_count_0 : decode cX7_count 0 = .ok (.iload_n 1, 1) := by decide +kernel
theorem dX7_count_1 : decode cX7_count 1 = .ok (.tableswitch 94 0 6 #[43, 51, 59, 67, 72, 80, 89], 43) := by decide +kernel
theorem dX7_count_44 : decode cX7_count 44 = .ok (.aload_n 0, 1) := by decide +kernel
theorem dX7_count_45 : decode cX7_count 45 = .ok (.getfield 10, 3) := by decide +kernel
theorem dX7_count_48 : decode cX7_count 48 = .ok (.getfield 159, 3) := by decide +kernel
theorem dX7_count_51 : decode cX7_count 51 = .ok (.ireturn, 1) := by decide +kernel
theorem dX7_count_52 : decode cX7_count 52 = .ok (.aload_n 0, 1) := by decide +kernel
theorem dX7_count_53 : decode cX7_count 53 = .ok (.getfield 10, 3) := by decide +kernel
theorem dX7_count_56 : decode cX7_count 56 = .ok (.getfield 175, 3) := by decide +kernel
theorem dX7_count_59 : decode cX7_count 59 = .ok (.ireturn, 1) := by decide +kernel
theorem dX7_count_60 : decode cX7_count 60 = .ok (.aload_n 0, 1) := by decide +kernel
theorem dX7_count_61 : decode cX7_count 61 = .ok (.getfield 10, 3) := by decide +kernel
theorem dX7_count_64 : decode cX7_count 64 = .ok (.getfield 202, 3) := by decide +kernel
theorem dX7_count_67 : decode cX7_count 67 = .ok (.ireturn, 1) := by decide +kernel
theorem dX7_count_68 : decode cX7_count 68 = .ok (.aload_n 0, 1) := by decide +kernel
theorem dX7_count_69 : decode cX7_count 69 = .ok (.getfield 266, 3) := by decide +kernel
theorem dX7_count_72 : decode cX7_count 72 = .ok (.ireturn, 1) := by decide +kernel
theorem dX7_count_73 : decode cX7_count 73 = .ok (.aload_n 0, 1) := by decide +kernel
theorem dX7_count_74 : decode cX7_count 74 = .ok (.getfield 50, 3) := by decide +kernel
theorem dX7_count_77 : decode cX7_count 77 = .ok (.getfield 249, 3) := by decide +kernel
theorem dX7_count_80 : decode cX7_count 80 = .ok (.ireturn, 1) := by decide +kernel
theorem dX7_count_81 : decode cX7_count 81 = .ok (.aload_n 0, 1) := by decide +kernel
theorem dX7_count_82 : decode cX7_count 82 = .ok (.getfield 21, 3) := by decide +kernel
theorem dX7_count_85 : decode cX7_count 85 = .ok (.iconst (-1), 1) := by decide +kernel
theorem dX7_count_86 : decode cX7_count 86 = .ok (.invokevirtual 113, 3) := by decide +kernel
theorem dX7_count_89 : decode cX7_count 89 = .ok (.ireturn, 1) := by decide +kernel
theorem dX7_count_90 : decode cX7_count 90 = .ok (.aload_n 0, 1) := by decide +kernel
theorem dX7_count_91 : decode cX7_count 91 = .ok (.getfield 285, 3) := by decide +kernel
theorem dX7_count_94 : decode cX7_count 94 = .ok (.ireturn, 1) := by decide +kernel
theorem dX7_count_95 : decode cX7_count 95 = .ok (.bipush (-102), 2) := by decide +kernel
theorem dX7_count_97 : decode cX7_count 97 = .ok (.ireturn, 1) := by decide +kernel
