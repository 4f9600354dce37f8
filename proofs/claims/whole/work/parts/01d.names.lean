theorem dX6_init_0 : decode cX6_init 0 = .ok (.aload_n 0, 1) := by decide +kernel
theorem dX6_init_1 : decode cX6_init 1 = .ok (.invokespecial 1, 3) := by decide +kernel
theorem dX6_init_4 : decode cX6_init 4 = .ok (.aload_n 0, 1) := by decide +kernel
theorem dX6_init_5 : decode cX6_init 5 = .ok (.bipush 86, 2) := by decide +kernel
theorem dX6_init_7 : decode cX6_init 7 = .ok (.newarray .int, 2) := by decide +kernel
theorem dX6_init_9 : decode cX6_init 9 = .ok (.putfield 7, 3) := by decide +kernel
theorem dX6_init_12 : decode cX6_init 12 = .ok (.aload_n 0, 1) := by decide +kernel
theorem dX6_init_13 : decode cX6_init 13 = .ok (.sipush 344, 3) := by decide +kernel
theorem dX6_init_16 : decode cX6_init 16 = .ok (.newarray .int, 2) := by decide +kernel
theorem dX6_init_18 : decode cX6_init 18 = .ok (.putfield 13, 3) := by decide +kernel
theorem dX6_init_21 : decode cX6_init 21 = .ok (.aload_n 0, 1) := by decide +kernel
theorem dX6_init_22 : decode cX6_init 22 = .ok (.bipush 86, 2) := by decide +kernel
theorem dX6_init_24 : decode cX6_init 24 = .ok (.newarray .int, 2) := by decide +kernel
theorem dX6_init_26 : decode cX6_init 26 = .ok (.putfield 16, 3) := by decide +kernel
theorem dX6_init_29 : decode cX6_init 29 = .ok (.aload_n 0, 1) := by decide +kernel
theorem dX6_init_30 : decode cX6_init 30 = .ok (.bipush 86, 2) := by decide +kernel
theorem dX6_init_32 : decode cX6_init 32 = .ok (.newarray .int, 2) := by decide +kernel
theorem dX6_init_34 : decode cX6_init 34 = .ok (.putfield 19, 3) := by decide +kernel
theorem dX6_init_37 : decode cX6_init 37 = .ok (.aload_n 0, 1) := by decide +kernel
theorem dX6_init_38 : decode cX6_init 38 = .ok (.bipush 60, 2) := by decide +kernel
theorem dX6_init_40 : decode cX6_init 40 = .ok (.newarray .int, 2) := by decide +kernel
theorem dX6_init_42 : decode cX6_init 42 = .ok (.putfield 22, 3) := by decide +kernel
theorem dX6_init_45 : decode cX6_init 45 = .ok (.aload_n 0, 1) := by decide +kernel
theorem dX6_init_46 : decode cX6_init 46 = .ok (.iconst 2, 1) := by decide +kernel
theorem dX6_init_47 : decode cX6_init 47 = .ok (.newarray .int, 2) := by decide +kernel
theorem dX6_init_49 : decode cX6_init 49 = .ok (.putfield 25, 3) := by decide +kernel
theorem dX6_init_52 : decode cX6_init 52 = .ok (.aload_n 0, 1) := by decide +kernel
theorem dX6_init_53 : decode cX6_init 53 = .ok (.getfield 7, 3) := by decide +kernel
theorem dX6_init_56 : decode cX6_init 56 = .ok (.iconst 0, 1) := by decide +kernel
theorem dX6_init_57 : decode cX6_init 57 = .ok (.sipush 8000, 3) := by decide +kernel
theorem dX6_init_60 : decode cX6_init 60 = .ok (.iastore, 1) := by decide +kernel
theorem dX6_init_61 : decode cX6_init 61 = .ok (.aload_n 0, 1) := by decide +kernel
theorem dX6_init_62 : decode cX6_init 62 = .ok (.getfield 7, 3) := by decide +kernel
theorem dX6_init_65 : decode cX6_init 65 = .ok (.iconst 1, 1) := by decide +kernel
theorem dX6_init_66 : decode cX6_init 66 = .ok (.sipush 6000, 3) := by decide +kernel
theorem dX6_init_69 : decode cX6_init 69 = .ok (.iastore, 1) := by decide +kernel
theorem dX6_init_70 : decode cX6_init 70 = .ok (.aload_n 0, 1) := by decide +kernel
theorem dX6_init_71 : decode cX6_init 71 = .ok (.getfield 7, 3) := by decide +kernel
theorem dX6_init_74 : decode cX6_init 74 = .ok (.iconst 4, 1) := by decide +kernel
theorem dX6_init_75 : decode cX6_init 75 = .ok (.sipush 2000, 3) := by decide +kernel
theorem dX6_init_78 : decode cX6_init 78 = .ok (.iastore, 1) := by decide +kernel
theorem dX6_init_79 : decode cX6_init 79 = .ok (.aload_n 0, 1) := by decide +kernel
theorem dX6_init_80 : decode cX6_init 80 = .ok (.getfield 7, 3) := by decide +kernel
theorem dX6_init_83 : decode cX6_init 83 = .ok (.bipush 7, 2) := by decide +kernel
theorem dX6_init_85 : decode cX6_init 85 = .ok (.iconst (-1), 1) := by decide +kernel
theorem dX6_init_86 : decode cX6_init 86 = .ok (.iastore, 1) := by decide +kernel
theorem dX6_init_87 : decode cX6_init 87 = .ok (.return_, 1) := by decide +kernel
theorem dX6_in_0 : decode cX6_in 0 = .ok (.iload_n 0, 1) := by decide +kernel
theorem dX6_in_1 : decode cX6_in 1 = .ok (.iload_n 1, 1) := by decide +kernel
theorem dX6_in_2 : decode cX6_in 2 = .ok (.if_icmp .lt 12, 3) := by decide +kernel
theorem dX6_in_5 : decode cX6_in 5 = .ok (.iload_n 0, 1) := by decide +kernel
theorem dX6_in_6 : decode cX6_in 6 = .ok (.iload_n 2, 1) := by decide +kernel
theorem dX6_in_7 : decode cX6_in 7 = .ok (.if_icmp .gt 7, 3) := by decide +kernel
theorem dX6_in_10 : decode cX6_in 10 = .ok (.iconst 1, 1) := by decide +kernel
theorem dX6_in_11 : decode cX6_in 11 = .ok (.goto 4, 3) := by decide +kernel
theorem dX6_in_14 : decode cX6_in 14 = .ok (.iconst 0, 1) := by decide +kernel
theorem dX6_in_15 : decode cX6_in 15 = .ok (.ireturn, 1) := by decide +kernel
theorem dX6_copies_0 : decode cX6_copies 0 = .ok (.iconst 0, 1) := by decide +kernel
theorem dX6_copies_1 : decode cX6_copies 1 = .ok (.istore_n 2, 1) := by decide +kernel
theorem dX6_copies_2 : decode cX6_copies 2 = .ok (.iload_n 2, 1) := by decide +kernel
theorem dX6_copies_3 : decode cX6_copies 3 = .ok (.bipush 86, 2) := by decide +kernel
theorem dX6_copies_5 : decode cX6_copies 5 = .ok (.if_icmp .ge 15, 3) := by decide +kernel
theorem dX6_copies_8 : decode cX6_copies 8 = .ok (.aload_n 1, 1) := by decide +kernel
theorem dX6_copies_9 : decode cX6_copies 9 = .ok (.iload_n 2, 1) := by decide +kernel
theorem dX6_copies_10 : decode cX6_copies 10 = .ok (.aload_n 0, 1) := by decide +kernel
theorem dX6_copies_11 : decode cX6_copies 11 = .ok (.iload_n 2, 1) := by decide +kernel
theorem dX6_copies_12 : decode cX6_copies 12 = .ok (.iaload, 1) := by decide +kernel
theorem dX6_copies_13 : decode cX6_copies 13 = .ok (.iastore, 1) := by decide +kernel
theorem dX6_copies_14 : decode cX6_copies 14 = .ok (.iinc 2 1, 3) := by decide +kernel
theorem dX6_copies_17 : decode cX6_copies 17 = .ok (.goto (-15), 3) := by decide +kernel
theorem dX6_copies_20 : decode cX6_copies 20 = .ok (.return_, 1) := by decide +kernel
theorem dX6_changes_0 : decode cX6_changes 0 = .ok (.aload_n 0, 1) := by decide +kernel
theorem dX6_changes_1 : decode cX6_changes 1 = .ok (.getfield 28, 3) := by decide +kernel
theorem dX6_changes_4 : decode cX6_changes 4 = .ok (.ifCond .eq 4, 3) := by decide +kernel
theorem dX6_changes_7 : decode cX6_changes 7 = .ok (.return_, 1) := by decide +kernel
theorem dX6_changes_8 : decode cX6_changes 8 = .ok (.aload_n 0, 1) := by decide +kernel
theorem dX6_changes_9 : decode cX6_changes 9 = .ok (.getfield 32, 3) := by decide +kernel
theorem dX6_changes_12 : decode cX6_changes 12 = .ok (.iconst 4, 1) := by decide +kernel
theorem dX6_changes_13 : decode cX6_changes 13 = .ok (.if_icmp .ne 43, 3) := by decide +kernel
theorem dX6_changes_16 : decode cX6_changes 16 = .ok (.iconst 0, 1) := by decide +kernel
theorem dX6_changes_17 : decode cX6_changes 17 = .ok (.istore_n 1, 1) := by decide +kernel
theorem dX6_changes_18 : decode cX6_changes 18 = .ok (.iload_n 1, 1) := by decide +kernel
theorem dX6_changes_19 : decode cX6_changes 19 = .ok (.sipush 258, 3) := by decide +kernel
theorem dX6_changes_22 : decode cX6_changes 22 = .ok (.if_icmp .ge 24, 3) := by decide +kernel
theorem dX6_changes_25 : decode cX6_changes 25 = .ok (.aload_n 0, 1) := by decide +kernel
theorem dX6_changes_26 : decode cX6_changes 26 = .ok (.getfield 13, 3) := by decide +kernel
theorem dX6_changes_29 : decode cX6_changes 29 = .ok (.iload_n 1, 1) := by decide +kernel
theorem dX6_changes_30 : decode cX6_changes 30 = .ok (.aload_n 0, 1) := by decide +kernel
theorem dX6_changes_31 : decode cX6_changes 31 = .ok (.getfield 13, 3) := by decide +kernel
theorem dX6_changes_34 : decode cX6_changes 34 = .ok (.iload_n 1, 1) := by decide +kernel
theorem dX6_changes_35 : decode cX6_changes 35 = .ok (.bipush 86, 2) := by decide +kernel
theorem dX6_changes_37 : decode cX6_changes 37 = .ok (.iadd, 1) := by decide +kernel
theorem dX6_changes_38 : decode cX6_changes 38 = .ok (.iaload, 1) := by decide +kernel
theorem dX6_changes_39 : decode cX6_changes 39 = .ok (.iastore, 1) := by decide +kernel
theorem dX6_changes_40 : decode cX6_changes 40 = .ok (.iinc 1 1, 3) := by decide +kernel
theorem dX6_changes_43 : decode cX6_changes 43 = .ok (.goto (-25), 3) := by decide +kernel
theorem dX6_changes_46 : decode cX6_changes 46 = .ok (.aload_n 0, 1) := by decide +kernel
theorem dX6_changes_47 : decode cX6_changes 47 = .ok (.dup, 1) := by decide +kernel
theorem dX6_changes_48 : decode cX6_changes 48 = .ok (.getfield 32, 3) := by decide +kernel
theorem dX6_changes_51 : decode cX6_changes 51 = .ok (.iconst 1, 1) := by decide +kernel
theorem dX6_changes_52 : decode cX6_changes 52 = .ok (.isub, 1) := by decide +kernel
theorem dX6_changes_53 : decode cX6_changes 53 = .ok (.putfield 32, 3) := by decide +kernel
theorem dX6_changes_56 : decode cX6_changes 56 = .ok (.iconst 0, 1) := by decide +kernel
theorem dX6_changes_57 : decode cX6_changes 57 = .ok (.istore_n 1, 1) := by decide +kernel
theorem dX6_changes_58 : decode cX6_changes 58 = .ok (.iload_n 1, 1) := by decide +kernel
theorem dX6_changes_59 : decode cX6_changes 59 = .ok (.bipush 86, 2) := by decide +kernel
theorem dX6_changes_61 : decode cX6_changes 61 = .ok (.if_icmp .ge 29, 3) := by decide +kernel
theorem dX6_changes_64 : decode cX6_changes 64 = .ok (.aload_n 0, 1) := by decide +kernel
theorem dX6_changes_65 : decode cX6_changes 65 = .ok (.getfield 13, 3) := by decide +kernel
theorem dX6_changes_68 : decode cX6_changes 68 = .ok (.bipush 86, 2) := by decide +kernel
theorem dX6_changes_70 : decode cX6_changes 70 = .ok (.aload_n 0, 1) := by decide +kernel
theorem dX6_changes_71 : decode cX6_changes 71 = .ok (.getfield 32, 3) := by decide +kernel
theorem dX6_changes_74 : decode cX6_changes 74 = .ok (.imul, 1) := by decide +kernel
theorem dX6_changes_75 : decode cX6_changes 75 = .ok (.iload_n 1, 1) := by decide +kernel
theorem dX6_changes_76 : decode cX6_changes 76 = .ok (.iadd, 1) := by decide +kernel
theorem dX6_changes_77 : decode cX6_changes 77 = .ok (.aload_n 0, 1) := by decide +kernel
theorem dX6_changes_78 : decode cX6_changes 78 = .ok (.getfield 7, 3) := by decide +kernel
theorem dX6_changes_81 : decode cX6_changes 81 = .ok (.iload_n 1, 1) := by decide +kernel
theorem dX6_changes_82 : decode cX6_changes 82 = .ok (.iaload, 1) := by decide +kernel
theorem dX6_changes_83 : decode cX6_changes 83 = .ok (.iastore, 1) := by decide +kernel
theorem dX6_changes_84 : decode cX6_changes 84 = .ok (.iinc 1 1, 3) := by decide +kernel
theorem dX6_changes_87 : decode cX6_changes 87 = .ok (.goto (-29), 3) := by decide +kernel
theorem dX6_changes_90 : decode cX6_changes 90 = .ok (.aload_n 0, 1) := by decide +kernel
theorem dX6_changes_91 : decode cX6_changes 91 = .ok (.dup, 1) := by decide +kernel
theorem dX6_changes_92 : decode cX6_changes 92 = .ok (.getfield 32, 3) := by decide +kernel
theorem dX6_changes_95 : decode cX6_changes 95 = .ok (.iconst 1, 1) := by decide +kernel
theorem dX6_changes_96 : decode cX6_changes 96 = .ok (.iadd, 1) := by decide +kernel
theorem dX6_changes_97 : decode cX6_changes 97 = .ok (.putfield 32, 3) := by decide +kernel
theorem dX6_changes_100 : decode cX6_changes 100 = .ok (.return_, 1) := by decide +kernel
theorem dX6_of_0 : decode cX6_of 0 = .ok (.aload_n 0, 1) := by decide +kernel
theorem dX6_of_1 : decode cX6_of 1 = .ok (.getfield 7, 3) := by decide +kernel
theorem dX6_of_4 : decode cX6_of 4 = .ok (.bipush 46, 2) := by decide +kernel
theorem dX6_of_6 : decode cX6_of 6 = .ok (.iconst 5, 1) := by decide +kernel
theorem dX6_of_7 : decode cX6_of 7 = .ok (.iload_n 1, 1) := by decide +kernel
theorem dX6_of_8 : decode cX6_of 8 = .ok (.imul, 1) := by decide +kernel
theorem dX6_of_9 : decode cX6_of 9 = .ok (.iadd, 1) := by decide +kernel
theorem dX6_of_10 : decode cX6_of 10 = .ok (.iload_n 2, 1) := by decide +kernel
theorem dX6_of_11 : decode cX6_of 11 = .ok (.iadd, 1) := by decide +kernel
theorem dX6_of_12 : decode cX6_of 12 = .ok (.iaload, 1) := by decide +kernel
theorem dX6_of_13 : decode cX6_of 13 = .ok (.ireturn, 1) := by decide +kernel
theorem dX6_puts_0 : decode cX6_puts 0 = .ok (.aload_n 0, 1) := by decide +kernel
theorem dX6_puts_1 : decode cX6_puts 1 = .ok (.getfield 7, 3) := by decide +kernel
theorem dX6_puts_4 : decode cX6_puts 4 = .ok (.bipush 46, 2) := by decide +kernel
theorem dX6_puts_6 : decode cX6_puts 6 = .ok (.iconst 5, 1) := by decide +kernel
theorem dX6_puts_7 : decode cX6_puts 7 = .ok (.iload_n 1, 1) := by decide +kernel
theorem dX6_puts_8 : decode cX6_puts 8 = .ok (.imul, 1) := by decide +kernel
theorem dX6_puts_9 : decode cX6_puts 9 = .ok (.iadd, 1) := by decide +kernel
theorem dX6_puts_10 : decode cX6_puts 10 = .ok (.iload_n 2, 1) := by decide +kernel
theorem dX6_puts_11 : decode cX6_puts 11 = .ok (.iadd, 1) := by decide +kernel
theorem dX6_puts_12 : decode cX6_puts 12 = .ok (.iload_n 3, 1) := by decide +kernel
theorem dX6_puts_13 : decode cX6_puts 13 = .ok (.iastore, 1) := by decide +kernel
theorem dX6_puts_14 : decode cX6_puts 14 = .ok (.return_, 1) := by decide +kernel
theorem dX6_isGate_0 : decode cX6_isGate 0 = .ok (.iload_n 1, 1) := by decide +kernel
theorem dX6_isGate_1 : decode cX6_isGate 1 = .ok (.ifCond .lt 17, 3) := by decide +kernel
theorem dX6_isGate_4 : decode cX6_isGate 4 = .ok (.iload_n 1, 1) := by decide +kernel
theorem dX6_isGate_5 : decode cX6_isGate 5 = .ok (.aload_n 0, 1) := by decide +kernel
theorem dX6_isGate_6 : decode cX6_isGate 6 = .ok (.getfield 7, 3) := by decide +kernel
theorem dX6_isGate_9 : decode cX6_isGate 9 = .ok (.iconst 3, 1) := by decide +kernel
theorem dX6_isGate_10 : decode cX6_isGate 10 = .ok (.iaload, 1) := by decide +kernel
theorem dX6_isGate_11 : decode cX6_isGate 11 = .ok (.if_icmp .ge 7, 3) := by decide +kernel
theorem dX6_isGate_14 : decode cX6_isGate 14 = .ok (.iconst 1, 1) := by decide +kernel
theorem dX6_isGate_15 : decode cX6_isGate 15 = .ok (.goto 4, 3) := by decide +kernel
theorem dX6_isGate_18 : decode cX6_isGate 18 = .ok (.iconst 0, 1) := by decide +kernel
theorem dX6_isGate_19 : decode cX6_isGate 19 = .ok (.ireturn, 1) := by decide +kernel
theorem dX6_head_0 : decode cX6_head 0 = .ok (.aload_n 0, 1) := by decide +kernel
theorem dX6_head_1 : decode cX6_head 1 = .ok (.getfield 7, 3) := by decide +kernel
theorem dX6_head_4 : decode cX6_head 4 = .ok (.iconst 4, 1) := by decide +kernel
theorem dX6_head_5 : decode cX6_head 5 = .ok (.iaload, 1) := by decide +kernel
theorem dX6_head_6 : decode cX6_head 6 = .ok (.sipush 1000, 3) := by decide +kernel
theorem dX6_head_9 : decode cX6_head 9 = .ok (.idiv, 1) := by decide +kernel
theorem dX6_head_10 : decode cX6_head 10 = .ok (.iconst 1, 1) := by decide +kernel
theorem dX6_head_11 : decode cX6_head 11 = .ok (.iadd, 1) := by decide +kernel
theorem dX6_head_12 : decode cX6_head 12 = .ok (.ireturn, 1) := by decide +kernel
set_option maxRecDepth 20000 in
theorem ggX6_rate_X6_of : GoodIn wsX6_rate wsX6_of := goodIn_r _ [5, 6, 7, 8, 9, 10, 11, 12, 13, 14, 15, 16, 17] (by decide +kernel) (by decide +kernel)
set_option maxRecDepth 20000 in
theorem gX6_rate_X6_of : GoodIn wsX6_rate (wsV RX6 36 RX6 yX6_of wsX6_of) := goodIn_app (goodIn_of _ (by decide +kernel)) ggX6_rate_X6_of
theorem dX6_rate_0 : decode cX6_rate 0 = .ok (.aload_n 0, 1) := by decide +kernel
theorem dX6_rate_1 : decode cX6_rate 1 = .ok (.iload_n 1, 1) := by decide +kernel
theorem dX6_rate_2 : decode cX6_rate 2 = .ok (.iconst 0, 1) := by decide +kernel
theorem dX6_rate_3 : decode cX6_rate 3 = .ok (.invokevirtual 36, 3) := by decide +kernel
theorem dX6_rate_6 : decode cX6_rate 6 = .ok (.istore_n 3, 1) := by decide +kernel
theorem dX6_rate_7 : decode cX6_rate 7 = .ok (.aload_n 0, 1) := by decide +kernel
theorem dX6_rate_8 : decode cX6_rate 8 = .ok (.iload_n 1, 1) := by decide +kernel
theorem dX6_rate_9 : decode cX6_rate 9 = .ok (.iconst 1, 1) := by decide +kernel
theorem dX6_rate_10 : decode cX6_rate 10 = .ok (.invokevirtual 36, 3) := by decide +kernel
theorem dX6_rate_13 : decode cX6_rate 13 = .ok (.istore 4, 2) := by decide +kernel
theorem dX6_rate_15 : decode cX6_rate 15 = .ok (.iload 4, 2) := by decide +kernel
theorem dX6_rate_17 : decode cX6_rate 17 = .ok (.aload_n 0, 1) := by decide +kernel
theorem dX6_rate_18 : decode cX6_rate 18 = .ok (.iload_n 1, 1) := by decide +kernel
theorem dX6_rate_19 : decode cX6_rate 19 = .ok (.iconst 2, 1) := by decide +kernel
theorem dX6_rate_20 : decode cX6_rate 20 = .ok (.invokevirtual 36, 3) := by decide +kernel
theorem dX6_rate_23 : decode cX6_rate 23 = .ok (.imul, 1) := by decide +kernel
theorem dX6_rate_24 : decode cX6_rate 24 = .ok (.iload_n 2, 1) := by decide +kernel
theorem dX6_rate_25 : decode cX6_rate 25 = .ok (.imul, 1) := by decide +kernel
theorem dX6_rate_26 : decode cX6_rate 26 = .ok (.bipush 10, 2) := by decide +kernel
theorem dX6_rate_28 : decode cX6_rate 28 = .ok (.idiv, 1) := by decide +kernel
theorem dX6_rate_29 : decode cX6_rate 29 = .ok (.istore 5, 2) := by decide +kernel
theorem dX6_rate_31 : decode cX6_rate 31 = .ok (.iload_n 3, 1) := by decide +kernel
theorem dX6_rate_32 : decode cX6_rate 32 = .ok (.iconst 1, 1) := by decide +kernel
theorem dX6_rate_33 : decode cX6_rate 33 = .ok (.if_icmp .ne 17, 3) := by decide +kernel
theorem dX6_rate_36 : decode cX6_rate 36 = .ok (.iload_n 2, 1) := by decide +kernel
theorem dX6_rate_37 : decode cX6_rate 37 = .ok (.bipush 8, 2) := by decide +kernel
theorem dX6_rate_39 : decode cX6_rate 39 = .ok (.if_icmp .lt 11, 3) := by decide +kernel
theorem dX6_rate_42 : decode cX6_rate 42 = .ok (.iload 5, 2) := by decide +kernel
theorem dX6_rate_44 : decode cX6_rate 44 = .ok (.iload 4, 2) := by decide +kernel
theorem dX6_rate_46 : decode cX6_rate 46 = .ok (.iadd, 1) := by decide +kernel
theorem dX6_rate_47 : decode cX6_rate 47 = .ok (.goto 25, 3) := by decide +kernel
theorem dX6_rate_50 : decode cX6_rate 50 = .ok (.iload_n 3, 1) := by decide +kernel
theorem dX6_rate_51 : decode cX6_rate 51 = .ok (.iconst 2, 1) := by decide +kernel
theorem dX6_rate_52 : decode cX6_rate 52 = .ok (.if_icmp .ne 18, 3) := by decide +kernel
theorem dX6_rate_55 : decode cX6_rate 55 = .ok (.aload_n 0, 1) := by decide +kernel
theorem dX6_rate_56 : decode cX6_rate 56 = .ok (.iload_n 1, 1) := by decide +kernel
theorem dX6_rate_57 : decode cX6_rate 57 = .ok (.iconst 2, 1) := by decide +kernel
theorem dX6_rate_58 : decode cX6_rate 58 = .ok (.invokevirtual 36, 3) := by decide +kernel
theorem dX6_rate_61 : decode cX6_rate 61 = .ok (.bipush 10, 2) := by decide +kernel
theorem dX6_rate_63 : decode cX6_rate 63 = .ok (.if_icmp .ge 7, 3) := by decide +kernel
theorem dX6_rate_66 : decode cX6_rate 66 = .ok (.iconst 0, 1) := by decide +kernel
theorem dX6_rate_67 : decode cX6_rate 67 = .ok (.goto 5, 3) := by decide +kernel
theorem dX6_rate_70 : decode cX6_rate 70 = .ok (.iload 5, 2) := by decide +kernel
theorem dX6_rate_72 : decode cX6_rate 72 = .ok (.ireturn, 1) := by decide +kernel
theorem dX6_size_0 : decode cX6_size 0 = .ok (.iload_n 0, 1) := by decide +kernel
theorem dX6_size_1 : decode cX6_size 1 = .ok (.ifCond .ge 8, 3) := by decide +kernel
theorem dX6_size_4 : decode cX6_size 4 = .ok (.iload_n 0, 1) := by decide +kernel
theorem dX6_size_5 : decode cX6_size 5 = .ok (.ineg, 1) := by decide +kernel
theorem dX6_size_6 : decode cX6_size 6 = .ok (.goto 4, 3) := by decide +kernel
theorem dX6_size_9 : decode cX6_size 9 = .ok (.iload_n 0, 1) := by decide +kernel
theorem dX6_size_10 : decode cX6_size 10 = .ok (.ireturn, 1) := by decide +kernel
theorem dX6_placeIn_0 : decode cX6_placeIn 0 = .ok (.ldc 40, 2) := by decide +kernel
theorem dX6_placeIn_2 : decode cX6_placeIn 2 = .ok (.istore 4, 2) := by decide +kernel
theorem dX6_placeIn_4 : decode cX6_placeIn 4 = .ok (.iconst 0, 1) := by decide +kernel
theorem dX6_placeIn_5 : decode cX6_placeIn 5 = .ok (.istore 5, 2) := by decide +kernel
theorem dX6_placeIn_7 : decode cX6_placeIn 7 = .ok (.iload 5, 2) := by decide +kernel
theorem dX6_placeIn_9 : decode cX6_placeIn 9 = .ok (.iload_n 2, 1) := by decide +kernel
theorem dX6_placeIn_10 : decode cX6_placeIn 10 = .ok (.if_icmp .ge 33, 3) := by decide +kernel
theorem dX6_placeIn_13 : decode cX6_placeIn 13 = .ok (.aload_n 0, 1) := by decide +kernel
theorem dX6_placeIn_14 : decode cX6_placeIn 14 = .ok (.getfield 7, 3) := by decide +kernel
theorem dX6_placeIn_17 : decode cX6_placeIn 17 = .ok (.iload_n 1, 1) := by decide +kernel
theorem dX6_placeIn_18 : decode cX6_placeIn 18 = .ok (.iconst 2, 1) := by decide +kernel
theorem dX6_placeIn_19 : decode cX6_placeIn 19 = .ok (.iload 5, 2) := by decide +kernel
theorem dX6_placeIn_21 : decode cX6_placeIn 21 = .ok (.imul, 1) := by decide +kernel
theorem dX6_placeIn_22 : decode cX6_placeIn 22 = .ok (.iadd, 1) := by decide +kernel
theorem dX6_placeIn_23 : decode cX6_placeIn 23 = .ok (.iaload, 1) := by decide +kernel
theorem dX6_placeIn_24 : decode cX6_placeIn 24 = .ok (.iload_n 3, 1) := by decide +kernel
theorem dX6_placeIn_25 : decode cX6_placeIn 25 = .ok (.if_icmp .ne 8, 3) := by decide +kernel
theorem dX6_placeIn_28 : decode cX6_placeIn 28 = .ok (.iload 5, 2) := by decide +kernel
theorem dX6_placeIn_30 : decode cX6_placeIn 30 = .ok (.goto 5, 3) := by decide +kernel
theorem dX6_placeIn_33 : decode cX6_placeIn 33 = .ok (.iload 4, 2) := by decide +kernel
theorem dX6_placeIn_35 : decode cX6_placeIn 35 = .ok (.istore 4, 2) := by decide +kernel
theorem dX6_placeIn_37 : decode cX6_placeIn 37 = .ok (.iinc 5 1, 3) := by decide +kernel
theorem dX6_placeIn_40 : decode cX6_placeIn 40 = .ok (.goto (-33), 3) := by decide +kernel
theorem dX6_placeIn_43 : decode cX6_placeIn 43 = .ok (.iload 4, 2) := by decide +kernel
theorem dX6_placeIn_45 : decode cX6_placeIn 45 = .ok (.ireturn, 1) := by decide +kernel
theorem dX6_takesOut_0 : decode cX6_takesOut 0 = .ok (.iload_n 1, 1) := by decide +kernel
theorem dX6_takesOut_1 : decode cX6_takesOut 1 = .ok (.iconst 2, 1) := by decide +kernel
theorem dX6_takesOut_2 : decode cX6_takesOut 2 = .ok (.iload_n 3, 1) := by decide +kernel
theorem dX6_takesOut_3 : decode cX6_takesOut 3 = .ok (.imul, 1) := by decide +kernel
theorem dX6_takesOut_4 : decode cX6_takesOut 4 = .ok (.iadd, 1) := by decide +kernel
theorem dX6_takesOut_5 : decode cX6_takesOut 5 = .ok (.istore 4, 2) := by decide +kernel
theorem dX6_takesOut_7 : decode cX6_takesOut 7 = .ok (.iload 4, 2) := by decide +kernel
theorem dX6_takesOut_9 : decode cX6_takesOut 9 = .ok (.iload_n 1, 1) := by decide +kernel
theorem dX6_takesOut_10 : decode cX6_takesOut 10 = .ok (.iconst 2, 1) := by decide +kernel
theorem dX6_takesOut_11 : decode cX6_takesOut 11 = .ok (.iload_n 2, 1) := by decide +kernel
theorem dX6_takesOut_12 : decode cX6_takesOut 12 = .ok (.imul, 1) := by decide +kernel
theorem dX6_takesOut_13 : decode cX6_takesOut 13 = .ok (.iadd, 1) := by decide +kernel
theorem dX6_takesOut_14 : decode cX6_takesOut 14 = .ok (.iconst 2, 1) := by decide +kernel
theorem dX6_takesOut_15 : decode cX6_takesOut 15 = .ok (.isub, 1) := by decide +kernel
theorem dX6_takesOut_16 : decode cX6_takesOut 16 = .ok (.if_icmp .ge 25, 3) := by decide +kernel
theorem dX6_takesOut_19 : decode cX6_takesOut 19 = .ok (.aload_n 0, 1) := by decide +kernel
theorem dX6_takesOut_20 : decode cX6_takesOut 20 = .ok (.getfield 7, 3) := by decide +kernel
theorem dX6_takesOut_23 : decode cX6_takesOut 23 = .ok (.iload 4, 2) := by decide +kernel
theorem dX6_takesOut_25 : decode cX6_takesOut 25 = .ok (.aload_n 0, 1) := by decide +kernel
theorem dX6_takesOut_26 : decode cX6_takesOut 26 = .ok (.getfield 7, 3) := by decide +kernel
theorem dX6_takesOut_29 : decode cX6_takesOut 29 = .ok (.iload 4, 2) := by decide +kernel
theorem dX6_takesOut_31 : decode cX6_takesOut 31 = .ok (.iconst 2, 1) := by decide +kernel
theorem dX6_takesOut_32 : decode cX6_takesOut 32 = .ok (.iadd, 1) := by decide +kernel
theorem dX6_takesOut_33 : decode cX6_takesOut 33 = .ok (.iaload, 1) := by decide +kernel
theorem dX6_takesOut_34 : decode cX6_takesOut 34 = .ok (.iastore, 1) := by decide +kernel
theorem dX6_takesOut_35 : decode cX6_takesOut 35 = .ok (.iinc 4 1, 3) := by decide +kernel
theorem dX6_takesOut_38 : decode cX6_takesOut 38 = .ok (.goto (-31), 3) := by decide +kernel
theorem dX6_takesOut_41 : decode cX6_takesOut 41 = .ok (.return_, 1) := by decide +kernel
set_option maxRecDepth 20000 in
theorem ggX6_dropsOrder_X6_takesOut : GoodIn wsX6_dropsOrder wsX6_takesOut := goodIn_r _ [6, 1, 7, 8, 9, 10, 11, 12, 13, 14, 15, 16, 17] (by decide +kernel) (by decide +kernel)
set_option maxRecDepth 20000 in
theorem gX6_dropsOrder_X6_takesOut : GoodIn wsX6_dropsOrder (wsV RX6 41 RX6 yX6_takesOut wsX6_takesOut) := goodIn_app (goodIn_of _ (by decide +kernel)) ggX6_dropsOrder_X6_takesOut
theorem dX6_dropsOrder_0 : decode cX6_dropsOrder 0 = .ok (.aload_n 0, 1) := by decide +kernel
theorem dX6_dropsOrder_1 : decode cX6_dropsOrder 1 = .ok (.bipush 20, 2) := by decide +kernel
theorem dX6_dropsOrder_3 : decode cX6_dropsOrder 3 = .ok (.aload_n 0, 1) := by decide +kernel
theorem dX6_dropsOrder_4 : decode cX6_dropsOrder 4 = .ok (.getfield 7, 3) := by decide +kernel
theorem dX6_dropsOrder_7 : decode cX6_dropsOrder 7 = .ok (.bipush 10, 2) := by decide +kernel
theorem dX6_dropsOrder_9 : decode cX6_dropsOrder 9 = .ok (.iaload, 1) := by decide +kernel
theorem dX6_dropsOrder_10 : decode cX6_dropsOrder 10 = .ok (.iload_n 1, 1) := by decide +kernel
theorem dX6_dropsOrder_11 : decode cX6_dropsOrder 11 = .ok (.invokevirtual 41, 3) := by decide +kernel
theorem dX6_dropsOrder_14 : decode cX6_dropsOrder 14 = .ok (.aload_n 0, 1) := by decide +kernel
theorem dX6_dropsOrder_15 : decode cX6_dropsOrder 15 = .ok (.getfield 7, 3) := by decide +kernel
theorem dX6_dropsOrder_18 : decode cX6_dropsOrder 18 = .ok (.bipush 10, 2) := by decide +kernel
theorem dX6_dropsOrder_20 : decode cX6_dropsOrder 20 = .ok (.dup2, 1) := by decide +kernel
theorem dX6_dropsOrder_21 : decode cX6_dropsOrder 21 = .ok (.iaload, 1) := by decide +kernel
theorem dX6_dropsOrder_22 : decode cX6_dropsOrder 22 = .ok (.iconst 1, 1) := by decide +kernel
theorem dX6_dropsOrder_23 : decode cX6_dropsOrder 23 = .ok (.isub, 1) := by decide +kernel
theorem dX6_dropsOrder_24 : decode cX6_dropsOrder 24 = .ok (.iastore, 1) := by decide +kernel
theorem dX6_dropsOrder_25 : decode cX6_dropsOrder 25 = .ok (.return_, 1) := by decide +kernel
set_option maxRecDepth 20000 in
theorem ggX6_dropsMark_X6_takesOut : GoodIn wsX6_dropsMark wsX6_takesOut := goodIn_r _ [6, 1, 7, 8, 9, 10, 11, 12, 13, 14, 15, 16, 17] (by decide +kernel) (by decide +kernel)
set_option maxRecDepth 20000 in
theorem gX6_dropsMark_X6_takesOut : GoodIn wsX6_dropsMark (wsV RX6 41 RX6 yX6_takesOut wsX6_takesOut) := goodIn_app (goodIn_of _ (by decide +kernel)) ggX6_dropsMark_X6_takesOut
theorem dX6_dropsMark_0 : decode cX6_dropsMark 0 = .ok (.aload_n 0, 1) := by decide +kernel
theorem dX6_dropsMark_1 : decode cX6_dropsMark 1 = .ok (.bipush 36, 2) := by decide +kernel
theorem dX6_dropsMark_3 : decode cX6_dropsMark 3 = .ok (.aload_n 0, 1) := by decide +kernel
theorem dX6_dropsMark_4 : decode cX6_dropsMark 4 = .ok (.getfield 7, 3) := by decide +kernel
theorem dX6_dropsMark_7 : decode cX6_dropsMark 7 = .ok (.bipush 11, 2) := by decide +kernel
theorem dX6_dropsMark_9 : decode cX6_dropsMark 9 = .ok (.iaload, 1) := by decide +kernel
theorem dX6_dropsMark_10 : decode cX6_dropsMark 10 = .ok (.iload_n 1, 1) := by decide +kernel
theorem dX6_dropsMark_11 : decode cX6_dropsMark 11 = .ok (.invokevirtual 41, 3) := by decide +kernel
theorem dX6_dropsMark_14 : decode cX6_dropsMark 14 = .ok (.aload_n 0, 1) := by decide +kernel
theorem dX6_dropsMark_15 : decode cX6_dropsMark 15 = .ok (.getfield 7, 3) := by decide +kernel
theorem dX6_dropsMark_18 : decode cX6_dropsMark 18 = .ok (.bipush 11, 2) := by decide +kernel
theorem dX6_dropsMark_20 : decode cX6_dropsMark 20 = .ok (.dup2, 1) := by decide +kernel
theorem dX6_dropsMark_21 : decode cX6_dropsMark 21 = .ok (.iaload, 1) := by decide +kernel
theorem dX6_dropsMark_22 : decode cX6_dropsMark 22 = .ok (.iconst 1, 1) := by decide +kernel
theorem dX6_dropsMark_23 : decode cX6_dropsMark 23 = .ok (.isub, 1) := by decide +kernel
theorem dX6_dropsMark_24 : decode cX6_dropsMark 24 = .ok (.iastore, 1) := by decide +kernel
theorem dX6_dropsMark_25 : decode cX6_dropsMark 25 = .ok (.return_, 1) := by decide +kernel
set_option maxRecDepth 20000 in
theorem ggX6_orderOf_X6_placeIn : GoodIn wsX6_orderOf wsX6_placeIn := goodIn_r _ [6, 7, 1, 8, 9, 10, 11, 12, 13, 14, 15, 16, 17, 18] (by decide +kernel) (by decide +kernel)
set_option maxRecDepth 20000 in
theorem gX6_orderOf_X6_placeIn : GoodIn wsX6_orderOf (wsV RX6 45 RX6 yX6_placeIn wsX6_placeIn) := goodIn_app (goodIn_of _ (by decide +kernel)) ggX6_orderOf_X6_placeIn
theorem dX6_orderOf_0 : decode cX6_orderOf 0 = .ok (.aload_n 0, 1) := by decide +kernel
theorem dX6_orderOf_1 : decode cX6_orderOf 1 = .ok (.bipush 20, 2) := by decide +kernel
theorem dX6_orderOf_3 : decode cX6_orderOf 3 = .ok (.aload_n 0, 1) := by decide +kernel
theorem dX6_orderOf_4 : decode cX6_orderOf 4 = .ok (.getfield 7, 3) := by decide +kernel
theorem dX6_orderOf_7 : decode cX6_orderOf 7 = .ok (.bipush 10, 2) := by decide +kernel
theorem dX6_orderOf_9 : decode cX6_orderOf 9 = .ok (.iaload, 1) := by decide +kernel
theorem dX6_orderOf_10 : decode cX6_orderOf 10 = .ok (.iload_n 1, 1) := by decide +kernel
theorem dX6_orderOf_11 : decode cX6_orderOf 11 = .ok (.invokevirtual 45, 3) := by decide +kernel
theorem dX6_orderOf_14 : decode cX6_orderOf 14 = .ok (.ireturn, 1) := by decide +kernel
set_option maxRecDepth 20000 in
theorem ggX6_markOf_X6_placeIn : GoodIn wsX6_markOf wsX6_placeIn := goodIn_r _ [6, 7, 1, 8, 9, 10, 11, 12, 13, 14, 15, 16, 17, 18] (by decide +kernel) (by decide +kernel)
set_option maxRecDepth 20000 in
theorem gX6_markOf_X6_placeIn : GoodIn wsX6_markOf (wsV RX6 45 RX6 yX6_placeIn wsX6_placeIn) := goodIn_app (goodIn_of _ (by decide +kernel)) ggX6_markOf_X6_placeIn
theorem dX6_markOf_0 : decode cX6_markOf 0 = .ok (.aload_n 0, 1) := by decide +kernel
theorem dX6_markOf_1 : decode cX6_markOf 1 = .ok (.bipush 36, 2) := by decide +kernel
theorem dX6_markOf_3 : decode cX6_markOf 3 = .ok (.aload_n 0, 1) := by decide +kernel
theorem dX6_markOf_4 : decode cX6_markOf 4 = .ok (.getfield 7, 3) := by decide +kernel
theorem dX6_markOf_7 : decode cX6_markOf 7 = .ok (.bipush 11, 2) := by decide +kernel
theorem dX6_markOf_9 : decode cX6_markOf 9 = .ok (.iaload, 1) := by decide +kernel
theorem dX6_markOf_10 : decode cX6_markOf 10 = .ok (.iload_n 1, 1) := by decide +kernel
theorem dX6_markOf_11 : decode cX6_markOf 11 = .ok (.invokevirtual 45, 3) := by decide +kernel
theorem dX6_markOf_14 : decode cX6_markOf 14 = .ok (.ireturn, 1) := by decide +kernel
set_option maxRecDepth 20000 in
theorem ggX6_marks_X6_markOf : GoodIn wsX6_marks wsX6_markOf := goodIn_r _ [6, 1, 7, 8, 9, 5, 10, 11, 20, 21, 22, 23, 24, 25, 26, 27, 28, 29, 30] (by decide +kernel) (by decide +kernel)
set_option maxRecDepth 20000 in
theorem gX6_marks_X6_markOf : GoodIn wsX6_marks (wsV RX6 49 RX6 yX6_markOf wsX6_markOf) := goodIn_app (goodIn_of _ (by decide +kernel)) ggX6_marks_X6_markOf
set_option maxRecDepth 20000 in
theorem ggX6_marks_X6_dropsMark : GoodIn wsX6_marks wsX6_dropsMark := goodIn_r _ [15, 1, 16, 17, 18, 5, 19, 20, 21, 22, 23, 24, 25, 26, 27, 28, 29, 30] (by decide +kernel) (by decide +kernel)
set_option maxRecDepth 20000 in
theorem gX6_marks_X6_dropsMark : GoodIn wsX6_marks (wsV RX6 53 RX6 yX6_dropsMark wsX6_dropsMark) := goodIn_app (goodIn_of _ (by decide +kernel)) ggX6_marks_X6_dropsMark
theorem dX6_marks_0 : decode cX6_marks 0 = .ok (.aload_n 0, 1) := by decide +kernel
theorem dX6_marks_1 : decode cX6_marks 1 = .ok (.iload_n 1, 1) := by decide +kernel
theorem dX6_marks_2 : decode cX6_marks 2 = .ok (.invokevirtual 49, 3) := by decide +kernel
theorem dX6_marks_5 : decode cX6_marks 5 = .ok (.istore_n 3, 1) := by decide +kernel
theorem dX6_marks_6 : decode cX6_marks 6 = .ok (.iload_n 3, 1) := by decide +kernel
theorem dX6_marks_7 : decode cX6_marks 7 = .ok (.ifCond .lt 8, 3) := by decide +kernel
theorem dX6_marks_10 : decode cX6_marks 10 = .ok (.aload_n 0, 1) := by decide +kernel
theorem dX6_marks_11 : decode cX6_marks 11 = .ok (.iload_n 3, 1) := by decide +kernel
theorem dX6_marks_12 : decode cX6_marks 12 = .ok (.invokevirtual 53, 3) := by decide +kernel
theorem dX6_marks_15 : decode cX6_marks 15 = .ok (.aload_n 0, 1) := by decide +kernel
theorem dX6_marks_16 : decode cX6_marks 16 = .ok (.getfield 7, 3) := by decide +kernel
theorem dX6_marks_19 : decode cX6_marks 19 = .ok (.bipush 11, 2) := by decide +kernel
theorem dX6_marks_21 : decode cX6_marks 21 = .ok (.iaload, 1) := by decide +kernel
theorem dX6_marks_22 : decode cX6_marks 22 = .ok (.iconst 4, 1) := by decide +kernel
theorem dX6_marks_23 : decode cX6_marks 23 = .ok (.if_icmp .ne 14, 3) := by decide +kernel
theorem dX6_marks_26 : decode cX6_marks 26 = .ok (.aload_n 0, 1) := by decide +kernel
theorem dX6_marks_27 : decode cX6_marks 27 = .ok (.getfield 7, 3) := by decide +kernel
theorem dX6_marks_30 : decode cX6_marks 30 = .ok (.bipush 11, 2) := by decide +kernel
theorem dX6_marks_32 : decode cX6_marks 32 = .ok (.dup2, 1) := by decide +kernel
theorem dX6_marks_33 : decode cX6_marks 33 = .ok (.iaload, 1) := by decide +kernel
theorem dX6_marks_34 : decode cX6_marks 34 = .ok (.iconst 1, 1) := by decide +kernel
theorem dX6_marks_35 : decode cX6_marks 35 = .ok (.isub, 1) := by decide +kernel
theorem dX6_marks_36 : decode cX6_marks 36 = .ok (.iastore, 1) := by decide +kernel
theorem dX6_marks_37 : decode cX6_marks 37 = .ok (.bipush 36, 2) := by decide +kernel
theorem dX6_marks_39 : decode cX6_marks 39 = .ok (.iconst 2, 1) := by decide +kernel
theorem dX6_marks_40 : decode cX6_marks 40 = .ok (.aload_n 0, 1) := by decide +kernel
theorem dX6_marks_41 : decode cX6_marks 41 = .ok (.getfield 7, 3) := by decide +kernel
theorem dX6_marks_44 : decode cX6_marks 44 = .ok (.bipush 11, 2) := by decide +kernel
theorem dX6_marks_46 : decode cX6_marks 46 = .ok (.iaload, 1) := by decide +kernel
theorem dX6_marks_47 : decode cX6_marks 47 = .ok (.imul, 1) := by decide +kernel
theorem dX6_marks_48 : decode cX6_marks 48 = .ok (.iadd, 1) := by decide +kernel
theorem dX6_marks_49 : decode cX6_marks 49 = .ok (.iconst 1, 1) := by decide +kernel
theorem dX6_marks_50 : decode cX6_marks 50 = .ok (.iadd, 1) := by decide +kernel
theorem dX6_marks_51 : decode cX6_marks 51 = .ok (.istore 4, 2) := by decide +kernel
theorem dX6_marks_53 : decode cX6_marks 53 = .ok (.iload 4, 2) := by decide +kernel
theorem dX6_marks_55 : decode cX6_marks 55 = .ok (.bipush 38, 2) := by decide +kernel
theorem dX6_marks_57 : decode cX6_marks 57 = .ok (.if_icmp .lt 25, 3) := by decide +kernel
theorem dX6_marks_60 : decode cX6_marks 60 = .ok (.aload_n 0, 1) := by decide +kernel
theorem dX6_marks_61 : decode cX6_marks 61 = .ok (.getfield 7, 3) := by decide +kernel
theorem dX6_marks_64 : decode cX6_marks 64 = .ok (.iload 4, 2) := by decide +kernel
theorem dX6_marks_66 : decode cX6_marks 66 = .ok (.aload_n 0, 1) := by decide +kernel
theorem dX6_marks_67 : decode cX6_marks 67 = .ok (.getfield 7, 3) := by decide +kernel
theorem dX6_marks_70 : decode cX6_marks 70 = .ok (.iload 4, 2) := by decide +kernel
theorem dX6_marks_72 : decode cX6_marks 72 = .ok (.iconst 2, 1) := by decide +kernel
theorem dX6_marks_73 : decode cX6_marks 73 = .ok (.isub, 1) := by decide +kernel
theorem dX6_marks_74 : decode cX6_marks 74 = .ok (.iaload, 1) := by decide +kernel
theorem dX6_marks_75 : decode cX6_marks 75 = .ok (.iastore, 1) := by decide +kernel
theorem dX6_marks_76 : decode cX6_marks 76 = .ok (.iinc 4 (-1), 3) := by decide +kernel
theorem dX6_marks_79 : decode cX6_marks 79 = .ok (.goto (-26), 3) := by decide +kernel
theorem dX6_marks_82 : decode cX6_marks 82 = .ok (.aload_n 0, 1) := by decide +kernel
theorem dX6_marks_83 : decode cX6_marks 83 = .ok (.getfield 7, 3) := by decide +kernel
theorem dX6_marks_86 : decode cX6_marks 86 = .ok (.bipush 36, 2) := by decide +kernel
theorem dX6_marks_88 : decode cX6_marks 88 = .ok (.iload_n 1, 1) := by decide +kernel
theorem dX6_marks_89 : decode cX6_marks 89 = .ok (.iastore, 1) := by decide +kernel
theorem dX6_marks_90 : decode cX6_marks 90 = .ok (.aload_n 0, 1) := by decide +kernel
theorem dX6_marks_91 : decode cX6_marks 91 = .ok (.getfield 7, 3) := by decide +kernel
theorem dX6_marks_94 : decode cX6_marks 94 = .ok (.bipush 37, 2) := by decide +kernel
theorem dX6_marks_96 : decode cX6_marks 96 = .ok (.iload_n 2, 1) := by decide +kernel
theorem dX6_marks_97 : decode cX6_marks 97 = .ok (.iastore, 1) := by decide +kernel
theorem dX6_marks_98 : decode cX6_marks 98 = .ok (.aload_n 0, 1) := by decide +kernel
theorem dX6_marks_99 : decode cX6_marks 99 = .ok (.getfield 7, 3) := by decide +kernel
theorem dX6_marks_102 : decode cX6_marks 102 = .ok (.bipush 11, 2) := by decide +kernel
theorem dX6_marks_104 : decode cX6_marks 104 = .ok (.dup2, 1) := by decide +kernel
theorem dX6_marks_105 : decode cX6_marks 105 = .ok (.iaload, 1) := by decide +kernel
theorem dX6_marks_106 : decode cX6_marks 106 = .ok (.iconst 1, 1) := by decide +kernel
theorem dX6_marks_107 : decode cX6_marks 107 = .ok (.iadd, 1) := by decide +kernel
theorem dX6_marks_108 : decode cX6_marks 108 = .ok (.iastore, 1) := by decide +kernel
theorem dX6_marks_109 : decode cX6_marks 109 = .ok (.return_, 1) := by decide +kernel
set_option maxRecDepth 20000 in
theorem ggX6_floods_X6_marks : GoodIn wsX6_floods wsX6_marks := goodIn_r _ [6, 1, 7, 8, 9, 5, 10, 11, 12, 13, 14, 15, 16, 17, 18, 19, 20, 21, 22, 23, 24, 25, 26, 27, 28, 29, 30, 31, 32, 33, 34] (by decide +kernel) (by decide +kernel)
set_option maxRecDepth 20000 in
theorem gX6_floods_X6_marks : GoodIn wsX6_floods (wsV RX6 57 RX6 yX6_marks wsX6_marks) := goodIn_app (goodIn_of _ (by decide +kernel)) ggX6_floods_X6_marks
theorem dX6_floods_0 : decode cX6_floods 0 = .ok (.aload_n 0, 1) := by decide +kernel
theorem dX6_floods_1 : decode cX6_floods 1 = .ok (.getfield 7, 3) := by decide +kernel
theorem dX6_floods_4 : decode cX6_floods 4 = .ok (.bipush 9, 2) := by decide +kernel
theorem dX6_floods_6 : decode cX6_floods 6 = .ok (.iaload, 1) := by decide +kernel
theorem dX6_floods_7 : decode cX6_floods 7 = .ok (.ifCond .ne 87, 3) := by decide +kernel
theorem dX6_floods_10 : decode cX6_floods 10 = .ok (.aload_n 0, 1) := by decide +kernel
theorem dX6_floods_11 : decode cX6_floods 11 = .ok (.getfield 7, 3) := by decide +kernel
theorem dX6_floods_14 : decode cX6_floods 14 = .ok (.iconst 4, 1) := by decide +kernel
theorem dX6_floods_15 : decode cX6_floods 15 = .ok (.iaload, 1) := by decide +kernel
theorem dX6_floods_16 : decode cX6_floods 16 = .ok (.aload_n 0, 1) := by decide +kernel
theorem dX6_floods_17 : decode cX6_floods 17 = .ok (.getfield 7, 3) := by decide +kernel
theorem dX6_floods_20 : decode cX6_floods 20 = .ok (.iconst 0, 1) := by decide +kernel
theorem dX6_floods_21 : decode cX6_floods 21 = .ok (.iaload, 1) := by decide +kernel
theorem dX6_floods_22 : decode cX6_floods 22 = .ok (.if_icmp .lt 72, 3) := by decide +kernel
theorem dX6_floods_25 : decode cX6_floods 25 = .ok (.aload_n 0, 1) := by decide +kernel
theorem dX6_floods_26 : decode cX6_floods 26 = .ok (.getfield 7, 3) := by decide +kernel
theorem dX6_floods_29 : decode cX6_floods 29 = .ok (.bipush 9, 2) := by decide +kernel
theorem dX6_floods_31 : decode cX6_floods 31 = .ok (.iconst 1, 1) := by decide +kernel
theorem dX6_floods_32 : decode cX6_floods 32 = .ok (.iastore, 1) := by decide +kernel
theorem dX6_floods_33 : decode cX6_floods 33 = .ok (.aload_n 0, 1) := by decide +kernel
theorem dX6_floods_34 : decode cX6_floods 34 = .ok (.getfield 7, 3) := by decide +kernel
theorem dX6_floods_37 : decode cX6_floods 37 = .ok (.bipush 16, 2) := by decide +kernel
theorem dX6_floods_39 : decode cX6_floods 39 = .ok (.dup2, 1) := by decide +kernel
theorem dX6_floods_40 : decode cX6_floods 40 = .ok (.iaload, 1) := by decide +kernel
theorem dX6_floods_41 : decode cX6_floods 41 = .ok (.iconst 1, 1) := by decide +kernel
theorem dX6_floods_42 : decode cX6_floods 42 = .ok (.iadd, 1) := by decide +kernel
theorem dX6_floods_43 : decode cX6_floods 43 = .ok (.iastore, 1) := by decide +kernel
theorem dX6_floods_44 : decode cX6_floods 44 = .ok (.aload_n 0, 1) := by decide +kernel
theorem dX6_floods_45 : decode cX6_floods 45 = .ok (.getfield 7, 3) := by decide +kernel
theorem dX6_floods_48 : decode cX6_floods 48 = .ok (.bipush 7, 2) := by decide +kernel
theorem dX6_floods_50 : decode cX6_floods 50 = .ok (.iaload, 1) := by decide +kernel
theorem dX6_floods_51 : decode cX6_floods 51 = .ok (.ifCond .lt 110, 3) := by decide +kernel
theorem dX6_floods_54 : decode cX6_floods 54 = .ok (.aload_n 0, 1) := by decide +kernel
theorem dX6_floods_55 : decode cX6_floods 55 = .ok (.aload_n 0, 1) := by decide +kernel
theorem dX6_floods_56 : decode cX6_floods 56 = .ok (.getfield 7, 3) := by decide +kernel
theorem dX6_floods_59 : decode cX6_floods 59 = .ok (.bipush 7, 2) := by decide +kernel
theorem dX6_floods_61 : decode cX6_floods 61 = .ok (.iaload, 1) := by decide +kernel
theorem dX6_floods_62 : decode cX6_floods 62 = .ok (.aload_n 0, 1) := by decide +kernel
theorem dX6_floods_63 : decode cX6_floods 63 = .ok (.getfield 7, 3) := by decide +kernel
theorem dX6_floods_66 : decode cX6_floods 66 = .ok (.bipush 8, 2) := by decide +kernel
theorem dX6_floods_68 : decode cX6_floods 68 = .ok (.iaload, 1) := by decide +kernel
theorem dX6_floods_69 : decode cX6_floods 69 = .ok (.invokevirtual 57, 3) := by decide +kernel
theorem dX6_floods_72 : decode cX6_floods 72 = .ok (.aload_n 0, 1) := by decide +kernel
theorem dX6_floods_73 : decode cX6_floods 73 = .ok (.getfield 7, 3) := by decide +kernel
theorem dX6_floods_76 : decode cX6_floods 76 = .ok (.bipush 7, 2) := by decide +kernel
theorem dX6_floods_78 : decode cX6_floods 78 = .ok (.iconst (-1), 1) := by decide +kernel
theorem dX6_floods_79 : decode cX6_floods 79 = .ok (.iastore, 1) := by decide +kernel
theorem dX6_floods_80 : decode cX6_floods 80 = .ok (.aload_n 0, 1) := by decide +kernel
theorem dX6_floods_81 : decode cX6_floods 81 = .ok (.getfield 7, 3) := by decide +kernel
theorem dX6_floods_84 : decode cX6_floods 84 = .ok (.bipush 19, 2) := by decide +kernel
theorem dX6_floods_86 : decode cX6_floods 86 = .ok (.dup2, 1) := by decide +kernel
theorem dX6_floods_87 : decode cX6_floods 87 = .ok (.iaload, 1) := by decide +kernel
theorem dX6_floods_88 : decode cX6_floods 88 = .ok (.iconst 1, 1) := by decide +kernel
theorem dX6_floods_89 : decode cX6_floods 89 = .ok (.iadd, 1) := by decide +kernel
theorem dX6_floods_90 : decode cX6_floods 90 = .ok (.iastore, 1) := by decide +kernel
theorem dX6_floods_91 : decode cX6_floods 91 = .ok (.goto 70, 3) := by decide +kernel
theorem dX6_floods_94 : decode cX6_floods 94 = .ok (.aload_n 0, 1) := by decide +kernel
theorem dX6_floods_95 : decode cX6_floods 95 = .ok (.getfield 7, 3) := by decide +kernel
theorem dX6_floods_98 : decode cX6_floods 98 = .ok (.bipush 9, 2) := by decide +kernel
theorem dX6_floods_100 : decode cX6_floods 100 = .ok (.iaload, 1) := by decide +kernel
theorem dX6_floods_101 : decode cX6_floods 101 = .ok (.iconst 1, 1) := by decide +kernel
theorem dX6_floods_102 : decode cX6_floods 102 = .ok (.if_icmp .ne 59, 3) := by decide +kernel
theorem dX6_floods_105 : decode cX6_floods 105 = .ok (.aload_n 0, 1) := by decide +kernel
theorem dX6_floods_106 : decode cX6_floods 106 = .ok (.getfield 7, 3) := by decide +kernel
theorem dX6_floods_109 : decode cX6_floods 109 = .ok (.iconst 4, 1) := by decide +kernel
theorem dX6_floods_110 : decode cX6_floods 110 = .ok (.iaload, 1) := by decide +kernel
theorem dX6_floods_111 : decode cX6_floods 111 = .ok (.aload_n 0, 1) := by decide +kernel
theorem dX6_floods_112 : decode cX6_floods 112 = .ok (.getfield 7, 3) := by decide +kernel
theorem dX6_floods_115 : decode cX6_floods 115 = .ok (.iconst 1, 1) := by decide +kernel
theorem dX6_floods_116 : decode cX6_floods 116 = .ok (.iaload, 1) := by decide +kernel
theorem dX6_floods_117 : decode cX6_floods 117 = .ok (.if_icmp .ge 44, 3) := by decide +kernel
theorem dX6_floods_120 : decode cX6_floods 120 = .ok (.aload_n 0, 1) := by decide +kernel
theorem dX6_floods_121 : decode cX6_floods 121 = .ok (.getfield 7, 3) := by decide +kernel
theorem dX6_floods_124 : decode cX6_floods 124 = .ok (.bipush 9, 2) := by decide +kernel
theorem dX6_floods_126 : decode cX6_floods 126 = .ok (.iconst 0, 1) := by decide +kernel
theorem dX6_floods_127 : decode cX6_floods 127 = .ok (.iastore, 1) := by decide +kernel
theorem dX6_floods_128 : decode cX6_floods 128 = .ok (.aload_n 0, 1) := by decide +kernel
theorem dX6_floods_129 : decode cX6_floods 129 = .ok (.getfield 7, 3) := by decide +kernel
theorem dX6_floods_132 : decode cX6_floods 132 = .ok (.bipush 19, 2) := by decide +kernel
theorem dX6_floods_134 : decode cX6_floods 134 = .ok (.dup2, 1) := by decide +kernel
theorem dX6_floods_135 : decode cX6_floods 135 = .ok (.iaload, 1) := by decide +kernel
theorem dX6_floods_136 : decode cX6_floods 136 = .ok (.aload_n 0, 1) := by decide +kernel
theorem dX6_floods_137 : decode cX6_floods 137 = .ok (.getfield 7, 3) := by decide +kernel
theorem dX6_floods_140 : decode cX6_floods 140 = .ok (.bipush 7, 2) := by decide +kernel
theorem dX6_floods_142 : decode cX6_floods 142 = .ok (.iaload, 1) := by decide +kernel
theorem dX6_floods_143 : decode cX6_floods 143 = .ok (.ifCond .lt 7, 3) := by decide +kernel
theorem dX6_floods_146 : decode cX6_floods 146 = .ok (.iconst 1, 1) := by decide +kernel
theorem dX6_floods_147 : decode cX6_floods 147 = .ok (.goto 4, 3) := by decide +kernel
theorem dX6_floods_150 : decode cX6_floods 150 = .ok (.iconst 0, 1) := by decide +kernel
theorem dX6_floods_151 : decode cX6_floods 151 = .ok (.iadd, 1) := by decide +kernel
theorem dX6_floods_152 : decode cX6_floods 152 = .ok (.iastore, 1) := by decide +kernel
theorem dX6_floods_153 : decode cX6_floods 153 = .ok (.aload_n 0, 1) := by decide +kernel
theorem dX6_floods_154 : decode cX6_floods 154 = .ok (.getfield 7, 3) := by decide +kernel
theorem dX6_floods_157 : decode cX6_floods 157 = .ok (.bipush 7, 2) := by decide +kernel
theorem dX6_floods_159 : decode cX6_floods 159 = .ok (.iconst (-1), 1) := by decide +kernel
theorem dX6_floods_160 : decode cX6_floods 160 = .ok (.iastore, 1) := by decide +kernel
theorem dX6_floods_161 : decode cX6_floods 161 = .ok (.return_, 1) := by decide +kernel
set_option maxRecDepth 20000 in
theorem ggX6_nextOrder_X6_size : GoodIn wsX6_nextOrder wsX6_size := goodIn_r _ [6] (by decide +kernel) (by decide +kernel)
set_option maxRecDepth 20000 in
theorem gX6_nextOrder_X6_size : GoodIn wsX6_nextOrder (va_wsS RX6 61 yX6_size wsX6_size) := goodIn_app (goodIn_of _ (by decide +kernel)) ggX6_nextOrder_X6_size
set_option maxRecDepth 20000 in
theorem ggX6_nextOrder_X6_of : GoodIn wsX6_nextOrder wsX6_of := goodIn_r _ [10, 2, 11, 12, 13, 14, 15, 16, 17, 18, 19, 20, 21] (by decide +kernel) (by decide +kernel)
set_option maxRecDepth 20000 in
theorem gX6_nextOrder_X6_of : GoodIn wsX6_nextOrder (wsV RX6 36 RX6 yX6_of wsX6_of) := goodIn_app (goodIn_of _ (by decide +kernel)) ggX6_nextOrder_X6_of
theorem dX6_nextOrder_0 : decode cX6_nextOrder 0 = .ok (.ldc 40, 2) := by decide +kernel
theorem dX6_nextOrder_2 : decode cX6_nextOrder 2 = .ok (.istore_n 1, 1) := by decide +kernel
theorem dX6_nextOrder_3 : decode cX6_nextOrder 3 = .ok (.iconst 0, 1) := by decide +kernel
theorem dX6_nextOrder_4 : decode cX6_nextOrder 4 = .ok (.istore_n 2, 1) := by decide +kernel
theorem dX6_nextOrder_5 : decode cX6_nextOrder 5 = .ok (.iconst 0, 1) := by decide +kernel
theorem dX6_nextOrder_6 : decode cX6_nextOrder 6 = .ok (.istore_n 3, 1) := by decide +kernel
theorem dX6_nextOrder_7 : decode cX6_nextOrder 7 = .ok (.iload_n 3, 1) := by decide +kernel
theorem dX6_nextOrder_8 : decode cX6_nextOrder 8 = .ok (.aload_n 0, 1) := by decide +kernel
theorem dX6_nextOrder_9 : decode cX6_nextOrder 9 = .ok (.getfield 7, 3) := by decide +kernel
theorem dX6_nextOrder_12 : decode cX6_nextOrder 12 = .ok (.bipush 10, 2) := by decide +kernel
theorem dX6_nextOrder_14 : decode cX6_nextOrder 14 = .ok (.iaload, 1) := by decide +kernel
theorem dX6_nextOrder_15 : decode cX6_nextOrder 15 = .ok (.if_icmp .ge 128, 3) := by decide +kernel
theorem dX6_nextOrder_18 : decode cX6_nextOrder 18 = .ok (.aload_n 0, 1) := by decide +kernel
theorem dX6_nextOrder_19 : decode cX6_nextOrder 19 = .ok (.getfield 7, 3) := by decide +kernel
theorem dX6_nextOrder_22 : decode cX6_nextOrder 22 = .ok (.bipush 20, 2) := by decide +kernel
theorem dX6_nextOrder_24 : decode cX6_nextOrder 24 = .ok (.iconst 2, 1) := by decide +kernel
theorem dX6_nextOrder_25 : decode cX6_nextOrder 25 = .ok (.iload_n 3, 1) := by decide +kernel
theorem dX6_nextOrder_26 : decode cX6_nextOrder 26 = .ok (.imul, 1) := by decide +kernel
theorem dX6_nextOrder_27 : decode cX6_nextOrder 27 = .ok (.iadd, 1) := by decide +kernel
theorem dX6_nextOrder_28 : decode cX6_nextOrder 28 = .ok (.iaload, 1) := by decide +kernel
theorem dX6_nextOrder_29 : decode cX6_nextOrder 29 = .ok (.istore 4, 2) := by decide +kernel
theorem dX6_nextOrder_31 : decode cX6_nextOrder 31 = .ok (.aload_n 0, 1) := by decide +kernel
theorem dX6_nextOrder_32 : decode cX6_nextOrder 32 = .ok (.getfield 7, 3) := by decide +kernel
theorem dX6_nextOrder_35 : decode cX6_nextOrder 35 = .ok (.iconst 2, 1) := by decide +kernel
theorem dX6_nextOrder_36 : decode cX6_nextOrder 36 = .ok (.iaload, 1) := by decide +kernel
theorem dX6_nextOrder_37 : decode cX6_nextOrder 37 = .ok (.ifCond .ne 7, 3) := by decide +kernel
theorem dX6_nextOrder_40 : decode cX6_nextOrder 40 = .ok (.iconst 0, 1) := by decide +kernel
theorem dX6_nextOrder_41 : decode cX6_nextOrder 41 = .ok (.goto 54, 3) := by decide +kernel
theorem dX6_nextOrder_44 : decode cX6_nextOrder 44 = .ok (.aload_n 0, 1) := by decide +kernel
theorem dX6_nextOrder_45 : decode cX6_nextOrder 45 = .ok (.getfield 7, 3) := by decide +kernel
theorem dX6_nextOrder_48 : decode cX6_nextOrder 48 = .ok (.iconst 2, 1) := by decide +kernel
theorem dX6_nextOrder_49 : decode cX6_nextOrder 49 = .ok (.iaload, 1) := by decide +kernel
theorem dX6_nextOrder_50 : decode cX6_nextOrder 50 = .ok (.iconst 1, 1) := by decide +kernel
theorem dX6_nextOrder_51 : decode cX6_nextOrder 51 = .ok (.if_icmp .ne 20, 3) := by decide +kernel
theorem dX6_nextOrder_54 : decode cX6_nextOrder 54 = .ok (.iload 4, 2) := by decide +kernel
theorem dX6_nextOrder_56 : decode cX6_nextOrder 56 = .ok (.aload_n 0, 1) := by decide +kernel
theorem dX6_nextOrder_57 : decode cX6_nextOrder 57 = .ok (.getfield 7, 3) := by decide +kernel
theorem dX6_nextOrder_60 : decode cX6_nextOrder 60 = .ok (.bipush 6, 2) := by decide +kernel
theorem dX6_nextOrder_62 : decode cX6_nextOrder 62 = .ok (.iaload, 1) := by decide +kernel
theorem dX6_nextOrder_63 : decode cX6_nextOrder 63 = .ok (.isub, 1) := by decide +kernel
theorem dX6_nextOrder_64 : decode cX6_nextOrder 64 = .ok (.invokestatic 61, 3) := by decide +kernel
theorem dX6_nextOrder_67 : decode cX6_nextOrder 67 = .ok (.ineg, 1) := by decide +kernel
theorem dX6_nextOrder_68 : decode cX6_nextOrder 68 = .ok (.goto 27, 3) := by decide +kernel
theorem dX6_nextOrder_71 : decode cX6_nextOrder 71 = .ok (.aload_n 0, 1) := by decide +kernel
theorem dX6_nextOrder_72 : decode cX6_nextOrder 72 = .ok (.getfield 7, 3) := by decide +kernel
theorem dX6_nextOrder_75 : decode cX6_nextOrder 75 = .ok (.bipush 20, 2) := by decide +kernel
theorem dX6_nextOrder_77 : decode cX6_nextOrder 77 = .ok (.iconst 2, 1) := by decide +kernel
theorem dX6_nextOrder_78 : decode cX6_nextOrder 78 = .ok (.iload_n 3, 1) := by decide +kernel
theorem dX6_nextOrder_79 : decode cX6_nextOrder 79 = .ok (.imul, 1) := by decide +kernel
theorem dX6_nextOrder_80 : decode cX6_nextOrder 80 = .ok (.iadd, 1) := by decide +kernel
theorem dX6_nextOrder_81 : decode cX6_nextOrder 81 = .ok (.iconst 1, 1) := by decide +kernel
theorem dX6_nextOrder_82 : decode cX6_nextOrder 82 = .ok (.iadd, 1) := by decide +kernel
theorem dX6_nextOrder_83 : decode cX6_nextOrder 83 = .ok (.iaload, 1) := by decide +kernel
theorem dX6_nextOrder_84 : decode cX6_nextOrder 84 = .ok (.aload_n 0, 1) := by decide +kernel
theorem dX6_nextOrder_85 : decode cX6_nextOrder 85 = .ok (.iload 4, 2) := by decide +kernel
theorem dX6_nextOrder_87 : decode cX6_nextOrder 87 = .ok (.iconst 2, 1) := by decide +kernel
theorem dX6_nextOrder_88 : decode cX6_nextOrder 88 = .ok (.invokevirtual 36, 3) := by decide +kernel
theorem dX6_nextOrder_91 : decode cX6_nextOrder 91 = .ok (.isub, 1) := by decide +kernel
theorem dX6_nextOrder_92 : decode cX6_nextOrder 92 = .ok (.invokestatic 61, 3) := by decide +kernel
theorem dX6_nextOrder_95 : decode cX6_nextOrder 95 = .ok (.istore 5, 2) := by decide +kernel
theorem dX6_nextOrder_97 : decode cX6_nextOrder 97 = .ok (.iload_n 1, 1) := by decide +kernel
theorem dX6_nextOrder_98 : decode cX6_nextOrder 98 = .ok (.ifCond .lt 9, 3) := by decide +kernel
theorem dX6_nextOrder_101 : decode cX6_nextOrder 101 = .ok (.iload 5, 2) := by decide +kernel
theorem dX6_nextOrder_103 : decode cX6_nextOrder 103 = .ok (.iload_n 2, 1) := by decide +kernel
theorem dX6_nextOrder_104 : decode cX6_nextOrder 104 = .ok (.if_icmp .le 7, 3) := by decide +kernel
theorem dX6_nextOrder_107 : decode cX6_nextOrder 107 = .ok (.iconst 1, 1) := by decide +kernel
theorem dX6_nextOrder_108 : decode cX6_nextOrder 108 = .ok (.goto 4, 3) := by decide +kernel
theorem dX6_nextOrder_111 : decode cX6_nextOrder 111 = .ok (.iconst 0, 1) := by decide +kernel
theorem dX6_nextOrder_112 : decode cX6_nextOrder 112 = .ok (.istore 6, 2) := by decide +kernel
theorem dX6_nextOrder_114 : decode cX6_nextOrder 114 = .ok (.iload 6, 2) := by decide +kernel
theorem dX6_nextOrder_116 : decode cX6_nextOrder 116 = .ok (.ifCond .eq 7, 3) := by decide +kernel
theorem dX6_nextOrder_119 : decode cX6_nextOrder 119 = .ok (.iload_n 3, 1) := by decide +kernel
theorem dX6_nextOrder_120 : decode cX6_nextOrder 120 = .ok (.goto 4, 3) := by decide +kernel
theorem dX6_nextOrder_123 : decode cX6_nextOrder 123 = .ok (.iload_n 1, 1) := by decide +kernel
theorem dX6_nextOrder_124 : decode cX6_nextOrder 124 = .ok (.istore_n 1, 1) := by decide +kernel
theorem dX6_nextOrder_125 : decode cX6_nextOrder 125 = .ok (.iload 6, 2) := by decide +kernel
theorem dX6_nextOrder_127 : decode cX6_nextOrder 127 = .ok (.ifCond .eq 8, 3) := by decide +kernel
theorem dX6_nextOrder_130 : decode cX6_nextOrder 130 = .ok (.iload 5, 2) := by decide +kernel
theorem dX6_nextOrder_132 : decode cX6_nextOrder 132 = .ok (.goto 4, 3) := by decide +kernel
theorem dX6_nextOrder_135 : decode cX6_nextOrder 135 = .ok (.iload_n 2, 1) := by decide +kernel
theorem dX6_nextOrder_136 : decode cX6_nextOrder 136 = .ok (.istore_n 2, 1) := by decide +kernel
theorem dX6_nextOrder_137 : decode cX6_nextOrder 137 = .ok (.iinc 3 1, 3) := by decide +kernel
theorem dX6_nextOrder_140 : decode cX6_nextOrder 140 = .ok (.goto (-133), 3) := by decide +kernel
theorem dX6_nextOrder_143 : decode cX6_nextOrder 143 = .ok (.iload_n 1, 1) := by decide +kernel
theorem dX6_nextOrder_144 : decode cX6_nextOrder 144 = .ok (.ireturn, 1) := by decide +kernel
set_option maxRecDepth 20000 in
theorem ggX6_nearestToOpen_X6_of : GoodIn wsX6_nearestToOpen wsX6_of := goodIn_r _ [7, 2, 11, 12, 13, 14, 15, 16, 17, 18, 19, 20, 21] (by decide +kernel) (by decide +kernel)
set_option maxRecDepth 20000 in
theorem gX6_nearestToOpen_X6_of : GoodIn wsX6_nearestToOpen (wsV RX6 36 RX6 yX6_of wsX6_of) := goodIn_app (goodIn_of _ (by decide +kernel)) ggX6_nearestToOpen_X6_of
set_option maxRecDepth 20000 in
theorem ggX6_nearestToOpen_X6_size : GoodIn wsX6_nearestToOpen wsX6_size := goodIn_r _ [10] (by decide +kernel) (by decide +kernel)
set_option maxRecDepth 20000 in
theorem gX6_nearestToOpen_X6_size : GoodIn wsX6_nearestToOpen (va_wsS RX6 61 yX6_size wsX6_size) := goodIn_app (goodIn_of _ (by decide +kernel)) ggX6_nearestToOpen_X6_size
theorem dX6_nearestToOpen_0 : decode cX6_nearestToOpen 0 = .ok (.ldc 40, 2) := by decide +kernel
theorem dX6_nearestToOpen_2 : decode cX6_nearestToOpen 2 = .ok (.istore_n 1, 1) := by decide +kernel
theorem dX6_nearestToOpen_3 : decode cX6_nearestToOpen 3 = .ok (.iconst 0, 1) := by decide +kernel
theorem dX6_nearestToOpen_4 : decode cX6_nearestToOpen 4 = .ok (.istore_n 2, 1) := by decide +kernel
theorem dX6_nearestToOpen_5 : decode cX6_nearestToOpen 5 = .ok (.iload_n 2, 1) := by decide +kernel
theorem dX6_nearestToOpen_6 : decode cX6_nearestToOpen 6 = .ok (.aload_n 0, 1) := by decide +kernel
theorem dX6_nearestToOpen_7 : decode cX6_nearestToOpen 7 = .ok (.getfield 7, 3) := by decide +kernel
theorem dX6_nearestToOpen_10 : decode cX6_nearestToOpen 10 = .ok (.iconst 3, 1) := by decide +kernel
theorem dX6_nearestToOpen_11 : decode cX6_nearestToOpen 11 = .ok (.iaload, 1) := by decide +kernel
theorem dX6_nearestToOpen_12 : decode cX6_nearestToOpen 12 = .ok (.if_icmp .ge 57, 3) := by decide +kernel
theorem dX6_nearestToOpen_15 : decode cX6_nearestToOpen 15 = .ok (.aload_n 0, 1) := by decide +kernel
theorem dX6_nearestToOpen_16 : decode cX6_nearestToOpen 16 = .ok (.iload_n 2, 1) := by decide +kernel
theorem dX6_nearestToOpen_17 : decode cX6_nearestToOpen 17 = .ok (.iconst 2, 1) := by decide +kernel
theorem dX6_nearestToOpen_18 : decode cX6_nearestToOpen 18 = .ok (.invokevirtual 36, 3) := by decide +kernel
theorem dX6_nearestToOpen_21 : decode cX6_nearestToOpen 21 = .ok (.bipush 10, 2) := by decide +kernel
theorem dX6_nearestToOpen_23 : decode cX6_nearestToOpen 23 = .ok (.if_icmp .ge 38, 3) := by decide +kernel
theorem dX6_nearestToOpen_26 : decode cX6_nearestToOpen 26 = .ok (.iload_n 1, 1) := by decide +kernel
theorem dX6_nearestToOpen_27 : decode cX6_nearestToOpen 27 = .ok (.ifCond .lt 30, 3) := by decide +kernel
theorem dX6_nearestToOpen_30 : decode cX6_nearestToOpen 30 = .ok (.iload_n 2, 1) := by decide +kernel
theorem dX6_nearestToOpen_31 : decode cX6_nearestToOpen 31 = .ok (.aload_n 0, 1) := by decide +kernel
theorem dX6_nearestToOpen_32 : decode cX6_nearestToOpen 32 = .ok (.getfield 7, 3) := by decide +kernel
theorem dX6_nearestToOpen_35 : decode cX6_nearestToOpen 35 = .ok (.bipush 6, 2) := by decide +kernel
theorem dX6_nearestToOpen_37 : decode cX6_nearestToOpen 37 = .ok (.iaload, 1) := by decide +kernel
theorem dX6_nearestToOpen_38 : decode cX6_nearestToOpen 38 = .ok (.isub, 1) := by decide +kernel
theorem dX6_nearestToOpen_39 : decode cX6_nearestToOpen 39 = .ok (.invokestatic 61, 3) := by decide +kernel
theorem dX6_nearestToOpen_42 : decode cX6_nearestToOpen 42 = .ok (.iload_n 1, 1) := by decide +kernel
theorem dX6_nearestToOpen_43 : decode cX6_nearestToOpen 43 = .ok (.aload_n 0, 1) := by decide +kernel
theorem dX6_nearestToOpen_44 : decode cX6_nearestToOpen 44 = .ok (.getfield 7, 3) := by decide +kernel
theorem dX6_nearestToOpen_47 : decode cX6_nearestToOpen 47 = .ok (.bipush 6, 2) := by decide +kernel
theorem dX6_nearestToOpen_49 : decode cX6_nearestToOpen 49 = .ok (.iaload, 1) := by decide +kernel
theorem dX6_nearestToOpen_50 : decode cX6_nearestToOpen 50 = .ok (.isub, 1) := by decide +kernel
theorem dX6_nearestToOpen_51 : decode cX6_nearestToOpen 51 = .ok (.invokestatic 61, 3) := by decide +kernel
theorem dX6_nearestToOpen_54 : decode cX6_nearestToOpen 54 = .ok (.if_icmp .ge 7, 3) := by decide +kernel
theorem dX6_nearestToOpen_57 : decode cX6_nearestToOpen 57 = .ok (.iload_n 2, 1) := by decide +kernel
theorem dX6_nearestToOpen_58 : decode cX6_nearestToOpen 58 = .ok (.goto 4, 3) := by decide +kernel
theorem dX6_nearestToOpen_61 : decode cX6_nearestToOpen 61 = .ok (.iload_n 1, 1) := by decide +kernel
theorem dX6_nearestToOpen_62 : decode cX6_nearestToOpen 62 = .ok (.istore_n 1, 1) := by decide +kernel
theorem dX6_nearestToOpen_63 : decode cX6_nearestToOpen 63 = .ok (.iinc 2 1, 3) := by decide +kernel
theorem dX6_nearestToOpen_66 : decode cX6_nearestToOpen 66 = .ok (.goto (-61), 3) := by decide +kernel
theorem dX6_nearestToOpen_69 : decode cX6_nearestToOpen 69 = .ok (.iload_n 1, 1) := by decide +kernel
theorem dX6_nearestToOpen_70 : decode cX6_nearestToOpen 70 = .ok (.ireturn, 1) := by decide +kernel
set_option maxRecDepth 20000 in
theorem ggX6_takes_X6_nearestToOpen : GoodIn wsX6_takes wsX6_nearestToOpen := goodIn_r _ [6, 7, 1, 8, 9, 10, 5, 11, 12, 13, 14, 31, 32, 33, 34, 35, 36, 37, 38, 39, 40, 41] (by decide +kernel) (by decide +kernel)
set_option maxRecDepth 20000 in
theorem gX6_takes_X6_nearestToOpen : GoodIn wsX6_takes (wsV RX6 64 RX6 yX6_nearestToOpen wsX6_nearestToOpen) := goodIn_app (goodIn_of _ (by decide +kernel)) ggX6_takes_X6_nearestToOpen
set_option maxRecDepth 20000 in
theorem ggX6_takes_X6_dropsMark : GoodIn wsX6_takes wsX6_dropsMark := goodIn_r _ [18, 1, 19, 20, 21, 5, 22, 31, 32, 33, 34, 35, 36, 37, 38, 39, 40, 41] (by decide +kernel) (by decide +kernel)
set_option maxRecDepth 20000 in
theorem gX6_takes_X6_dropsMark : GoodIn wsX6_takes (wsV RX6 53 RX6 yX6_dropsMark wsX6_dropsMark) := goodIn_app (goodIn_of _ (by decide +kernel)) ggX6_takes_X6_dropsMark
set_option maxRecDepth 20000 in
theorem ggX6_takes_X6_nextOrder : GoodIn wsX6_takes wsX6_nextOrder := goodIn_r _ [26, 7, 1, 12, 13, 5, 14, 8, 9, 10, 11, 31, 32, 33, 34, 35, 36, 37, 38, 39, 40, 41] (by decide +kernel) (by decide +kernel)
set_option maxRecDepth 20000 in
theorem gX6_takes_X6_nextOrder : GoodIn wsX6_takes (wsV RX6 68 RX6 yX6_nextOrder wsX6_nextOrder) := goodIn_app (goodIn_of _ (by decide +kernel)) ggX6_takes_X6_nextOrder
set_option maxRecDepth 20000 in
theorem ggX6_takes_X6_dropsOrder : GoodIn wsX6_takes wsX6_dropsOrder := goodIn_r _ [30, 1, 19, 20, 21, 5, 22, 31, 32, 33, 34, 35, 36, 37, 38, 39, 40, 41] (by decide +kernel) (by decide +kernel)
set_option maxRecDepth 20000 in
theorem gX6_takes_X6_dropsOrder : GoodIn wsX6_takes (wsV RX6 71 RX6 yX6_dropsOrder wsX6_dropsOrder) := goodIn_app (goodIn_of _ (by decide +kernel)) ggX6_takes_X6_dropsOrder
theorem dX6_takes_0 : decode cX6_takes 0 = .ok (.aload_n 0, 1) := by decide +kernel
theorem dX6_takes_1 : decode cX6_takes 1 = .ok (.getfield 7, 3) := by decide +kernel
theorem dX6_takes_4 : decode cX6_takes 4 = .ok (.bipush 9, 2) := by decide +kernel
theorem dX6_takes_6 : decode cX6_takes 6 = .ok (.iaload, 1) := by decide +kernel
theorem dX6_takes_7 : decode cX6_takes 7 = .ok (.iconst 1, 1) := by decide +kernel
theorem dX6_takes_8 : decode cX6_takes 8 = .ok (.if_icmp .ne 36, 3) := by decide +kernel
theorem dX6_takes_11 : decode cX6_takes 11 = .ok (.aload_n 0, 1) := by decide +kernel
theorem dX6_takes_12 : decode cX6_takes 12 = .ok (.invokevirtual 64, 3) := by decide +kernel
theorem dX6_takes_15 : decode cX6_takes 15 = .ok (.istore_n 1, 1) := by decide +kernel
theorem dX6_takes_16 : decode cX6_takes 16 = .ok (.aload_n 0, 1) := by decide +kernel
theorem dX6_takes_17 : decode cX6_takes 17 = .ok (.getfield 7, 3) := by decide +kernel
theorem dX6_takes_20 : decode cX6_takes 20 = .ok (.bipush 7, 2) := by decide +kernel
theorem dX6_takes_22 : decode cX6_takes 22 = .ok (.iload_n 1, 1) := by decide +kernel
theorem dX6_takes_23 : decode cX6_takes 23 = .ok (.ifCond .ge 7, 3) := by decide +kernel
theorem dX6_takes_26 : decode cX6_takes 26 = .ok (.iconst (-1), 1) := by decide +kernel
theorem dX6_takes_27 : decode cX6_takes 27 = .ok (.goto 4, 3) := by decide +kernel
theorem dX6_takes_30 : decode cX6_takes 30 = .ok (.iload_n 1, 1) := by decide +kernel
theorem dX6_takes_31 : decode cX6_takes 31 = .ok (.iastore, 1) := by decide +kernel
theorem dX6_takes_32 : decode cX6_takes 32 = .ok (.aload_n 0, 1) := by decide +kernel
theorem dX6_takes_33 : decode cX6_takes 33 = .ok (.getfield 7, 3) := by decide +kernel
theorem dX6_takes_36 : decode cX6_takes 36 = .ok (.bipush 8, 2) := by decide +kernel
theorem dX6_takes_38 : decode cX6_takes 38 = .ok (.bipush 10, 2) := by decide +kernel
theorem dX6_takes_40 : decode cX6_takes 40 = .ok (.iastore, 1) := by decide +kernel
theorem dX6_takes_41 : decode cX6_takes 41 = .ok (.goto 117, 3) := by decide +kernel
theorem dX6_takes_44 : decode cX6_takes 44 = .ok (.aload_n 0, 1) := by decide +kernel
theorem dX6_takes_45 : decode cX6_takes 45 = .ok (.getfield 7, 3) := by decide +kernel
theorem dX6_takes_48 : decode cX6_takes 48 = .ok (.bipush 11, 2) := by decide +kernel
theorem dX6_takes_50 : decode cX6_takes 50 = .ok (.iaload, 1) := by decide +kernel
theorem dX6_takes_51 : decode cX6_takes 51 = .ok (.ifCond .le 39, 3) := by decide +kernel
theorem dX6_takes_54 : decode cX6_takes 54 = .ok (.aload_n 0, 1) := by decide +kernel
theorem dX6_takes_55 : decode cX6_takes 55 = .ok (.getfield 7, 3) := by decide +kernel
theorem dX6_takes_58 : decode cX6_takes 58 = .ok (.bipush 7, 2) := by decide +kernel
theorem dX6_takes_60 : decode cX6_takes 60 = .ok (.aload_n 0, 1) := by decide +kernel
theorem dX6_takes_61 : decode cX6_takes 61 = .ok (.getfield 7, 3) := by decide +kernel
theorem dX6_takes_64 : decode cX6_takes 64 = .ok (.bipush 36, 2) := by decide +kernel
theorem dX6_takes_66 : decode cX6_takes 66 = .ok (.iaload, 1) := by decide +kernel
theorem dX6_takes_67 : decode cX6_takes 67 = .ok (.iastore, 1) := by decide +kernel
theorem dX6_takes_68 : decode cX6_takes 68 = .ok (.aload_n 0, 1) := by decide +kernel
theorem dX6_takes_69 : decode cX6_takes 69 = .ok (.getfield 7, 3) := by decide +kernel
theorem dX6_takes_72 : decode cX6_takes 72 = .ok (.bipush 8, 2) := by decide +kernel
theorem dX6_takes_74 : decode cX6_takes 74 = .ok (.aload_n 0, 1) := by decide +kernel
theorem dX6_takes_75 : decode cX6_takes 75 = .ok (.getfield 7, 3) := by decide +kernel
theorem dX6_takes_78 : decode cX6_takes 78 = .ok (.bipush 37, 2) := by decide +kernel
theorem dX6_takes_80 : decode cX6_takes 80 = .ok (.iaload, 1) := by decide +kernel
theorem dX6_takes_81 : decode cX6_takes 81 = .ok (.iastore, 1) := by decide +kernel
theorem dX6_takes_82 : decode cX6_takes 82 = .ok (.aload_n 0, 1) := by decide +kernel
theorem dX6_takes_83 : decode cX6_takes 83 = .ok (.iconst 0, 1) := by decide +kernel
theorem dX6_takes_84 : decode cX6_takes 84 = .ok (.invokevirtual 53, 3) := by decide +kernel
theorem dX6_takes_87 : decode cX6_takes 87 = .ok (.goto 71, 3) := by decide +kernel
theorem dX6_takes_90 : decode cX6_takes 90 = .ok (.aload_n 0, 1) := by decide +kernel
theorem dX6_takes_91 : decode cX6_takes 91 = .ok (.invokevirtual 68, 3) := by decide +kernel
theorem dX6_takes_94 : decode cX6_takes 94 = .ok (.istore_n 1, 1) := by decide +kernel
theorem dX6_takes_95 : decode cX6_takes 95 = .ok (.aload_n 0, 1) := by decide +kernel
theorem dX6_takes_96 : decode cX6_takes 96 = .ok (.getfield 7, 3) := by decide +kernel
theorem dX6_takes_99 : decode cX6_takes 99 = .ok (.bipush 7, 2) := by decide +kernel
theorem dX6_takes_101 : decode cX6_takes 101 = .ok (.iload_n 1, 1) := by decide +kernel
theorem dX6_takes_102 : decode cX6_takes 102 = .ok (.ifCond .ge 7, 3) := by decide +kernel
theorem dX6_takes_105 : decode cX6_takes 105 = .ok (.iconst (-1), 1) := by decide +kernel
theorem dX6_takes_106 : decode cX6_takes 106 = .ok (.goto 14, 3) := by decide +kernel
theorem dX6_takes_109 : decode cX6_takes 109 = .ok (.aload_n 0, 1) := by decide +kernel
theorem dX6_takes_110 : decode cX6_takes 110 = .ok (.getfield 7, 3) := by decide +kernel
theorem dX6_takes_113 : decode cX6_takes 113 = .ok (.bipush 20, 2) := by decide +kernel
theorem dX6_takes_115 : decode cX6_takes 115 = .ok (.iconst 2, 1) := by decide +kernel
theorem dX6_takes_116 : decode cX6_takes 116 = .ok (.iload_n 1, 1) := by decide +kernel
theorem dX6_takes_117 : decode cX6_takes 117 = .ok (.imul, 1) := by decide +kernel
theorem dX6_takes_118 : decode cX6_takes 118 = .ok (.iadd, 1) := by decide +kernel
theorem dX6_takes_119 : decode cX6_takes 119 = .ok (.iaload, 1) := by decide +kernel
theorem dX6_takes_120 : decode cX6_takes 120 = .ok (.iastore, 1) := by decide +kernel
theorem dX6_takes_121 : decode cX6_takes 121 = .ok (.aload_n 0, 1) := by decide +kernel
theorem dX6_takes_122 : decode cX6_takes 122 = .ok (.getfield 7, 3) := by decide +kernel
theorem dX6_takes_125 : decode cX6_takes 125 = .ok (.bipush 8, 2) := by decide +kernel
theorem dX6_takes_127 : decode cX6_takes 127 = .ok (.iload_n 1, 1) := by decide +kernel
theorem dX6_takes_128 : decode cX6_takes 128 = .ok (.ifCond .ge 7, 3) := by decide +kernel
theorem dX6_takes_131 : decode cX6_takes 131 = .ok (.iconst 0, 1) := by decide +kernel
theorem dX6_takes_132 : decode cX6_takes 132 = .ok (.goto 16, 3) := by decide +kernel
theorem dX6_takes_135 : decode cX6_takes 135 = .ok (.aload_n 0, 1) := by decide +kernel
theorem dX6_takes_136 : decode cX6_takes 136 = .ok (.getfield 7, 3) := by decide +kernel
theorem dX6_takes_139 : decode cX6_takes 139 = .ok (.bipush 20, 2) := by decide +kernel
theorem dX6_takes_141 : decode cX6_takes 141 = .ok (.iconst 2, 1) := by decide +kernel
theorem dX6_takes_142 : decode cX6_takes 142 = .ok (.iload_n 1, 1) := by decide +kernel
theorem dX6_takes_143 : decode cX6_takes 143 = .ok (.imul, 1) := by decide +kernel
theorem dX6_takes_144 : decode cX6_takes 144 = .ok (.iadd, 1) := by decide +kernel
theorem dX6_takes_145 : decode cX6_takes 145 = .ok (.iconst 1, 1) := by decide +kernel
theorem dX6_takes_146 : decode cX6_takes 146 = .ok (.iadd, 1) := by decide +kernel
theorem dX6_takes_147 : decode cX6_takes 147 = .ok (.iaload, 1) := by decide +kernel
theorem dX6_takes_148 : decode cX6_takes 148 = .ok (.iastore, 1) := by decide +kernel
theorem dX6_takes_149 : decode cX6_takes 149 = .ok (.iload_n 1, 1) := by decide +kernel
theorem dX6_takes_150 : decode cX6_takes 150 = .ok (.ifCond .lt 8, 3) := by decide +kernel
theorem dX6_takes_153 : decode cX6_takes 153 = .ok (.aload_n 0, 1) := by decide +kernel
theorem dX6_takes_154 : decode cX6_takes 154 = .ok (.iload_n 1, 1) := by decide +kernel
theorem dX6_takes_155 : decode cX6_takes 155 = .ok (.invokevirtual 71, 3) := by decide +kernel
theorem dX6_takes_158 : decode cX6_takes 158 = .ok (.aload_n 0, 1) := by decide +kernel
theorem dX6_takes_159 : decode cX6_takes 159 = .ok (.getfield 7, 3) := by decide +kernel
theorem dX6_takes_162 : decode cX6_takes 162 = .ok (.bipush 7, 2) := by decide +kernel
theorem dX6_takes_164 : decode cX6_takes 164 = .ok (.iaload, 1) := by decide +kernel
theorem dX6_takes_165 : decode cX6_takes 165 = .ok (.ifCond .lt 7, 3) := by decide +kernel
theorem dX6_takes_168 : decode cX6_takes 168 = .ok (.iconst 1, 1) := by decide +kernel
theorem dX6_takes_169 : decode cX6_takes 169 = .ok (.goto 4, 3) := by decide +kernel
theorem dX6_takes_172 : decode cX6_takes 172 = .ok (.iconst 0, 1) := by decide +kernel
theorem dX6_takes_173 : decode cX6_takes 173 = .ok (.ireturn, 1) := by decide +kernel
set_option maxRecDepth 20000 in
theorem ggX6_looks_X6_of : GoodIn wsX6_looks wsX6_of := goodIn_r _ [6, 1, 7, 8, 9, 10, 11, 12, 13, 14, 15, 16, 17] (by decide +kernel) (by decide +kernel)
set_option maxRecDepth 20000 in
theorem gX6_looks_X6_of : GoodIn wsX6_looks (wsV RX6 36 RX6 yX6_of wsX6_of) := goodIn_app (goodIn_of _ (by decide +kernel)) ggX6_looks_X6_of
theorem dX6_looks_0 : decode cX6_looks 0 = .ok (.aload_n 0, 1) := by decide +kernel
theorem dX6_looks_1 : decode cX6_looks 1 = .ok (.getfield 7, 3) := by decide +kernel
theorem dX6_looks_4 : decode cX6_looks 4 = .ok (.bipush 7, 2) := by decide +kernel
theorem dX6_looks_6 : decode cX6_looks 6 = .ok (.iaload, 1) := by decide +kernel
theorem dX6_looks_7 : decode cX6_looks 7 = .ok (.ifCond .lt 44, 3) := by decide +kernel
theorem dX6_looks_10 : decode cX6_looks 10 = .ok (.aload_n 0, 1) := by decide +kernel
theorem dX6_looks_11 : decode cX6_looks 11 = .ok (.aload_n 0, 1) := by decide +kernel
theorem dX6_looks_12 : decode cX6_looks 12 = .ok (.getfield 7, 3) := by decide +kernel
theorem dX6_looks_15 : decode cX6_looks 15 = .ok (.bipush 7, 2) := by decide +kernel
theorem dX6_looks_17 : decode cX6_looks 17 = .ok (.iaload, 1) := by decide +kernel
theorem dX6_looks_18 : decode cX6_looks 18 = .ok (.iconst 2, 1) := by decide +kernel
theorem dX6_looks_19 : decode cX6_looks 19 = .ok (.invokevirtual 36, 3) := by decide +kernel
theorem dX6_looks_22 : decode cX6_looks 22 = .ok (.aload_n 0, 1) := by decide +kernel
theorem dX6_looks_23 : decode cX6_looks 23 = .ok (.getfield 7, 3) := by decide +kernel
theorem dX6_looks_26 : decode cX6_looks 26 = .ok (.bipush 8, 2) := by decide +kernel
theorem dX6_looks_28 : decode cX6_looks 28 = .ok (.iaload, 1) := by decide +kernel
theorem dX6_looks_29 : decode cX6_looks 29 = .ok (.if_icmp .ne 22, 3) := by decide +kernel
theorem dX6_looks_32 : decode cX6_looks 32 = .ok (.aload_n 0, 1) := by decide +kernel
theorem dX6_looks_33 : decode cX6_looks 33 = .ok (.getfield 7, 3) := by decide +kernel
theorem dX6_looks_36 : decode cX6_looks 36 = .ok (.bipush 7, 2) := by decide +kernel
theorem dX6_looks_38 : decode cX6_looks 38 = .ok (.iconst (-1), 1) := by decide +kernel
theorem dX6_looks_39 : decode cX6_looks 39 = .ok (.iastore, 1) := by decide +kernel
theorem dX6_looks_40 : decode cX6_looks 40 = .ok (.aload_n 0, 1) := by decide +kernel
theorem dX6_looks_41 : decode cX6_looks 41 = .ok (.getfield 7, 3) := by decide +kernel
theorem dX6_looks_44 : decode cX6_looks 44 = .ok (.bipush 18, 2) := by decide +kernel
theorem dX6_looks_46 : decode cX6_looks 46 = .ok (.dup2, 1) := by decide +kernel
theorem dX6_looks_47 : decode cX6_looks 47 = .ok (.iaload, 1) := by decide +kernel
theorem dX6_looks_48 : decode cX6_looks 48 = .ok (.iconst 1, 1) := by decide +kernel
theorem dX6_looks_49 : decode cX6_looks 49 = .ok (.iadd, 1) := by decide +kernel
theorem dX6_looks_50 : decode cX6_looks 50 = .ok (.iastore, 1) := by decide +kernel
theorem dX6_looks_51 : decode cX6_looks 51 = .ok (.return_, 1) := by decide +kernel
set_option maxRecDepth 20000 in
theorem ggX6_works_X6_of : GoodIn wsX6_works wsX6_of := goodIn_r _ [6, 1, 18, 19, 20, 21, 22, 23, 24, 25, 26, 27, 28] (by decide +kernel) (by decide +kernel)
set_option maxRecDepth 20000 in
theorem gX6_works_X6_of : GoodIn wsX6_works (wsV RX6 36 RX6 yX6_of wsX6_of) := goodIn_app (goodIn_of _ (by decide +kernel)) ggX6_works_X6_of
set_option maxRecDepth 20000 in
theorem ggX6_works_X6_size : GoodIn wsX6_works wsX6_size := goodIn_r _ [9] (by decide +kernel) (by decide +kernel)
set_option maxRecDepth 20000 in
theorem gX6_works_X6_size : GoodIn wsX6_works (va_wsS RX6 61 yX6_size wsX6_size) := goodIn_app (goodIn_of _ (by decide +kernel)) ggX6_works_X6_size
set_option maxRecDepth 20000 in
theorem ggX6_works_X6_puts : GoodIn wsX6_works wsX6_puts := goodIn_r _ [13, 1, 18, 19, 20, 21, 22, 23, 24, 25, 26, 27, 28] (by decide +kernel) (by decide +kernel)
set_option maxRecDepth 20000 in
theorem gX6_works_X6_puts : GoodIn wsX6_works (wsV RX6 74 RX6 yX6_puts wsX6_puts) := goodIn_app (goodIn_of _ (by decide +kernel)) ggX6_works_X6_puts
set_option maxRecDepth 20000 in
theorem ggX6_works_X6_looks : GoodIn wsX6_works wsX6_looks := goodIn_r _ [17, 1, 2, 3, 4, 5, 6, 18, 19, 20, 21, 22, 23, 24, 25, 26, 27, 28] (by decide +kernel) (by decide +kernel)
set_option maxRecDepth 20000 in
theorem gX6_works_X6_looks : GoodIn wsX6_works (wsV RX6 77 RX6 yX6_looks wsX6_looks) := goodIn_app (goodIn_of _ (by decide +kernel)) ggX6_works_X6_looks
theorem dX6_works_0 : decode cX6_works 0 = .ok (.aload_n 0, 1) := by decide +kernel
theorem dX6_works_1 : decode cX6_works 1 = .ok (.getfield 7, 3) := by decide +kernel
theorem dX6_works_4 : decode cX6_works 4 = .ok (.bipush 7, 2) := by decide +kernel
theorem dX6_works_6 : decode cX6_works 6 = .ok (.iaload, 1) := by decide +kernel
theorem dX6_works_7 : decode cX6_works 7 = .ok (.istore_n 1, 1) := by decide +kernel
theorem dX6_works_8 : decode cX6_works 8 = .ok (.aload_n 0, 1) := by decide +kernel
theorem dX6_works_9 : decode cX6_works 9 = .ok (.getfield 7, 3) := by decide +kernel
theorem dX6_works_12 : decode cX6_works 12 = .ok (.bipush 17, 2) := by decide +kernel
theorem dX6_works_14 : decode cX6_works 14 = .ok (.dup2, 1) := by decide +kernel
theorem dX6_works_15 : decode cX6_works 15 = .ok (.iaload, 1) := by decide +kernel
theorem dX6_works_16 : decode cX6_works 16 = .ok (.iconst 1, 1) := by decide +kernel
theorem dX6_works_17 : decode cX6_works 17 = .ok (.iadd, 1) := by decide +kernel
theorem dX6_works_18 : decode cX6_works 18 = .ok (.iastore, 1) := by decide +kernel
theorem dX6_works_19 : decode cX6_works 19 = .ok (.iload_n 1, 1) := by decide +kernel
theorem dX6_works_20 : decode cX6_works 20 = .ok (.aload_n 0, 1) := by decide +kernel
theorem dX6_works_21 : decode cX6_works 21 = .ok (.getfield 7, 3) := by decide +kernel
theorem dX6_works_24 : decode cX6_works 24 = .ok (.bipush 6, 2) := by decide +kernel
theorem dX6_works_26 : decode cX6_works 26 = .ok (.iaload, 1) := by decide +kernel
theorem dX6_works_27 : decode cX6_works 27 = .ok (.if_icmp .eq 32, 3) := by decide +kernel
theorem dX6_works_30 : decode cX6_works 30 = .ok (.aload_n 0, 1) := by decide +kernel
theorem dX6_works_31 : decode cX6_works 31 = .ok (.getfield 7, 3) := by decide +kernel
theorem dX6_works_34 : decode cX6_works 34 = .ok (.bipush 6, 2) := by decide +kernel
theorem dX6_works_36 : decode cX6_works 36 = .ok (.dup2, 1) := by decide +kernel
theorem dX6_works_37 : decode cX6_works 37 = .ok (.iaload, 1) := by decide +kernel
theorem dX6_works_38 : decode cX6_works 38 = .ok (.iload_n 1, 1) := by decide +kernel
theorem dX6_works_39 : decode cX6_works 39 = .ok (.aload_n 0, 1) := by decide +kernel
theorem dX6_works_40 : decode cX6_works 40 = .ok (.getfield 7, 3) := by decide +kernel
theorem dX6_works_43 : decode cX6_works 43 = .ok (.bipush 6, 2) := by decide +kernel
theorem dX6_works_45 : decode cX6_works 45 = .ok (.iaload, 1) := by decide +kernel
theorem dX6_works_46 : decode cX6_works 46 = .ok (.if_icmp .le 7, 3) := by decide +kernel
theorem dX6_works_49 : decode cX6_works 49 = .ok (.iconst 1, 1) := by decide +kernel
theorem dX6_works_50 : decode cX6_works 50 = .ok (.goto 4, 3) := by decide +kernel
theorem dX6_works_53 : decode cX6_works 53 = .ok (.iconst (-1), 1) := by decide +kernel
theorem dX6_works_54 : decode cX6_works 54 = .ok (.iadd, 1) := by decide +kernel
theorem dX6_works_55 : decode cX6_works 55 = .ok (.iastore, 1) := by decide +kernel
theorem dX6_works_56 : decode cX6_works 56 = .ok (.goto 79, 3) := by decide +kernel
theorem dX6_works_59 : decode cX6_works 59 = .ok (.aload_n 0, 1) := by decide +kernel
theorem dX6_works_60 : decode cX6_works 60 = .ok (.getfield 7, 3) := by decide +kernel
theorem dX6_works_63 : decode cX6_works 63 = .ok (.bipush 8, 2) := by decide +kernel
theorem dX6_works_65 : decode cX6_works 65 = .ok (.iaload, 1) := by decide +kernel
theorem dX6_works_66 : decode cX6_works 66 = .ok (.aload_n 0, 1) := by decide +kernel
theorem dX6_works_67 : decode cX6_works 67 = .ok (.iload_n 1, 1) := by decide +kernel
theorem dX6_works_68 : decode cX6_works 68 = .ok (.iconst 2, 1) := by decide +kernel
theorem dX6_works_69 : decode cX6_works 69 = .ok (.invokevirtual 36, 3) := by decide +kernel
theorem dX6_works_72 : decode cX6_works 72 = .ok (.isub, 1) := by decide +kernel
theorem dX6_works_73 : decode cX6_works 73 = .ok (.istore_n 2, 1) := by decide +kernel
theorem dX6_works_74 : decode cX6_works 74 = .ok (.aload_n 0, 1) := by decide +kernel
theorem dX6_works_75 : decode cX6_works 75 = .ok (.iload_n 1, 1) := by decide +kernel
theorem dX6_works_76 : decode cX6_works 76 = .ok (.iconst 0, 1) := by decide +kernel
theorem dX6_works_77 : decode cX6_works 77 = .ok (.invokevirtual 36, 3) := by decide +kernel
theorem dX6_works_80 : decode cX6_works 80 = .ok (.iconst 2, 1) := by decide +kernel
theorem dX6_works_81 : decode cX6_works 81 = .ok (.if_icmp .ne 15, 3) := by decide +kernel
theorem dX6_works_84 : decode cX6_works 84 = .ok (.iload_n 2, 1) := by decide +kernel
theorem dX6_works_85 : decode cX6_works 85 = .ok (.invokestatic 61, 3) := by decide +kernel
theorem dX6_works_88 : decode cX6_works 88 = .ok (.iconst 1, 1) := by decide +kernel
theorem dX6_works_89 : decode cX6_works 89 = .ok (.if_icmp .le 7, 3) := by decide +kernel
theorem dX6_works_92 : decode cX6_works 92 = .ok (.iconst 2, 1) := by decide +kernel
theorem dX6_works_93 : decode cX6_works 93 = .ok (.goto 4, 3) := by decide +kernel
theorem dX6_works_96 : decode cX6_works 96 = .ok (.iconst 1, 1) := by decide +kernel
theorem dX6_works_97 : decode cX6_works 97 = .ok (.istore_n 3, 1) := by decide +kernel
theorem dX6_works_98 : decode cX6_works 98 = .ok (.aload_n 0, 1) := by decide +kernel
theorem dX6_works_99 : decode cX6_works 99 = .ok (.iload_n 1, 1) := by decide +kernel
theorem dX6_works_100 : decode cX6_works 100 = .ok (.iconst 2, 1) := by decide +kernel
theorem dX6_works_101 : decode cX6_works 101 = .ok (.aload_n 0, 1) := by decide +kernel
theorem dX6_works_102 : decode cX6_works 102 = .ok (.iload_n 1, 1) := by decide +kernel
theorem dX6_works_103 : decode cX6_works 103 = .ok (.iconst 2, 1) := by decide +kernel
theorem dX6_works_104 : decode cX6_works 104 = .ok (.invokevirtual 36, 3) := by decide +kernel
theorem dX6_works_107 : decode cX6_works 107 = .ok (.iload_n 2, 1) := by decide +kernel
theorem dX6_works_108 : decode cX6_works 108 = .ok (.ifCond .le 7, 3) := by decide +kernel
theorem dX6_works_111 : decode cX6_works 111 = .ok (.iload_n 3, 1) := by decide +kernel
theorem dX6_works_112 : decode cX6_works 112 = .ok (.goto 5, 3) := by decide +kernel
theorem dX6_works_115 : decode cX6_works 115 = .ok (.iload_n 3, 1) := by decide +kernel
theorem dX6_works_116 : decode cX6_works 116 = .ok (.ineg, 1) := by decide +kernel
theorem dX6_works_117 : decode cX6_works 117 = .ok (.iadd, 1) := by decide +kernel
theorem dX6_works_118 : decode cX6_works 118 = .ok (.invokevirtual 74, 3) := by decide +kernel
theorem dX6_works_121 : decode cX6_works 121 = .ok (.aload_n 0, 1) := by decide +kernel
theorem dX6_works_122 : decode cX6_works 122 = .ok (.iload_n 1, 1) := by decide +kernel
theorem dX6_works_123 : decode cX6_works 123 = .ok (.iconst 4, 1) := by decide +kernel
theorem dX6_works_124 : decode cX6_works 124 = .ok (.aload_n 0, 1) := by decide +kernel
theorem dX6_works_125 : decode cX6_works 125 = .ok (.iload_n 1, 1) := by decide +kernel
theorem dX6_works_126 : decode cX6_works 126 = .ok (.iconst 4, 1) := by decide +kernel
theorem dX6_works_127 : decode cX6_works 127 = .ok (.invokevirtual 36, 3) := by decide +kernel
theorem dX6_works_130 : decode cX6_works 130 = .ok (.iconst 1, 1) := by decide +kernel
theorem dX6_works_131 : decode cX6_works 131 = .ok (.iadd, 1) := by decide +kernel
theorem dX6_works_132 : decode cX6_works 132 = .ok (.invokevirtual 74, 3) := by decide +kernel
theorem dX6_works_135 : decode cX6_works 135 = .ok (.aload_n 0, 1) := by decide +kernel
theorem dX6_works_136 : decode cX6_works 136 = .ok (.invokevirtual 77, 3) := by decide +kernel
theorem dX6_works_139 : decode cX6_works 139 = .ok (.return_, 1) := by decide +kernel
set_option maxRecDepth 20000 in
theorem ggX6_flows_X6_head : GoodIn wsX6_flows wsX6_head := goodIn_r _ [6, 1, 19, 20, 21, 22, 23, 24, 25, 26, 27, 28, 29] (by decide +kernel) (by decide +kernel)
set_option maxRecDepth 20000 in
theorem gX6_flows_X6_head : GoodIn wsX6_flows (wsV RX6 80 RX6 yX6_head wsX6_head) := goodIn_app (goodIn_of _ (by decide +kernel)) ggX6_flows_X6_head
set_option maxRecDepth 20000 in
theorem ggX6_flows_X6_rate : GoodIn wsX6_flows wsX6_rate := goodIn_r _ [10, 11, 12, 13, 5, 14, 1, 19, 20, 21, 22, 23, 24, 25, 26, 27, 28, 29] (by decide +kernel) (by decide +kernel)
set_option maxRecDepth 20000 in
theorem gX6_flows_X6_rate : GoodIn wsX6_flows (wsV RX6 83 RX6 yX6_rate wsX6_rate) := goodIn_app (goodIn_of _ (by decide +kernel)) ggX6_flows_X6_rate
set_option maxRecDepth 20000 in
theorem ggX6_flows_X6_of : GoodIn wsX6_flows wsX6_of := goodIn_r _ [14, 1, 19, 20, 21, 22, 23, 24, 25, 26, 27, 28, 29] (by decide +kernel) (by decide +kernel)
set_option maxRecDepth 20000 in
theorem gX6_flows_X6_of : GoodIn wsX6_flows (wsV RX6 36 RX6 yX6_of wsX6_of) := goodIn_app (goodIn_of _ (by decide +kernel)) ggX6_flows_X6_of
set_option maxRecDepth 20000 in
theorem ggX6_flows_X6_puts : GoodIn wsX6_flows wsX6_puts := goodIn_r _ [18, 1, 19, 20, 21, 22, 23, 24, 25, 26, 27, 28, 29] (by decide +kernel) (by decide +kernel)
set_option maxRecDepth 20000 in
theorem gX6_flows_X6_puts : GoodIn wsX6_flows (wsV RX6 74 RX6 yX6_puts wsX6_puts) := goodIn_app (goodIn_of _ (by decide +kernel)) ggX6_flows_X6_puts
theorem dX6_flows_0 : decode cX6_flows 0 = .ok (.aload_n 0, 1) := by decide +kernel
theorem dX6_flows_1 : decode cX6_flows 1 = .ok (.invokevirtual 80, 3) := by decide +kernel
theorem dX6_flows_4 : decode cX6_flows 4 = .ok (.istore_n 1, 1) := by decide +kernel
theorem dX6_flows_5 : decode cX6_flows 5 = .ok (.aload_n 0, 1) := by decide +kernel
theorem dX6_flows_6 : decode cX6_flows 6 = .ok (.getfield 7, 3) := by decide +kernel
theorem dX6_flows_9 : decode cX6_flows 9 = .ok (.iconst 4, 1) := by decide +kernel
theorem dX6_flows_10 : decode cX6_flows 10 = .ok (.dup2, 1) := by decide +kernel
theorem dX6_flows_11 : decode cX6_flows 11 = .ok (.iaload, 1) := by decide +kernel
theorem dX6_flows_12 : decode cX6_flows 12 = .ok (.aload_n 0, 1) := by decide +kernel
theorem dX6_flows_13 : decode cX6_flows 13 = .ok (.getfield 7, 3) := by decide +kernel
theorem dX6_flows_16 : decode cX6_flows 16 = .ok (.iconst 5, 1) := by decide +kernel
theorem dX6_flows_17 : decode cX6_flows 17 = .ok (.iaload, 1) := by decide +kernel
theorem dX6_flows_18 : decode cX6_flows 18 = .ok (.iadd, 1) := by decide +kernel
theorem dX6_flows_19 : decode cX6_flows 19 = .ok (.iastore, 1) := by decide +kernel
theorem dX6_flows_20 : decode cX6_flows 20 = .ok (.aload_n 0, 1) := by decide +kernel
theorem dX6_flows_21 : decode cX6_flows 21 = .ok (.getfield 7, 3) := by decide +kernel
theorem dX6_flows_24 : decode cX6_flows 24 = .ok (.bipush 13, 2) := by decide +kernel
theorem dX6_flows_26 : decode cX6_flows 26 = .ok (.dup2, 1) := by decide +kernel
theorem dX6_flows_27 : decode cX6_flows 27 = .ok (.iaload, 1) := by decide +kernel
theorem dX6_flows_28 : decode cX6_flows 28 = .ok (.aload_n 0, 1) := by decide +kernel
theorem dX6_flows_29 : decode cX6_flows 29 = .ok (.getfield 7, 3) := by decide +kernel
theorem dX6_flows_32 : decode cX6_flows 32 = .ok (.iconst 5, 1) := by decide +kernel
theorem dX6_flows_33 : decode cX6_flows 33 = .ok (.iaload, 1) := by decide +kernel
theorem dX6_flows_34 : decode cX6_flows 34 = .ok (.iadd, 1) := by decide +kernel
theorem dX6_flows_35 : decode cX6_flows 35 = .ok (.iastore, 1) := by decide +kernel
theorem dX6_flows_36 : decode cX6_flows 36 = .ok (.iconst 0, 1) := by decide +kernel
theorem dX6_flows_37 : decode cX6_flows 37 = .ok (.istore_n 2, 1) := by decide +kernel
theorem dX6_flows_38 : decode cX6_flows 38 = .ok (.iload_n 2, 1) := by decide +kernel
theorem dX6_flows_39 : decode cX6_flows 39 = .ok (.aload_n 0, 1) := by decide +kernel
theorem dX6_flows_40 : decode cX6_flows 40 = .ok (.getfield 7, 3) := by decide +kernel
theorem dX6_flows_43 : decode cX6_flows 43 = .ok (.iconst 3, 1) := by decide +kernel
theorem dX6_flows_44 : decode cX6_flows 44 = .ok (.iaload, 1) := by decide +kernel
theorem dX6_flows_45 : decode cX6_flows 45 = .ok (.if_icmp .ge 72, 3) := by decide +kernel
theorem dX6_flows_48 : decode cX6_flows 48 = .ok (.aload_n 0, 1) := by decide +kernel
theorem dX6_flows_49 : decode cX6_flows 49 = .ok (.iload_n 2, 1) := by decide +kernel
theorem dX6_flows_50 : decode cX6_flows 50 = .ok (.iload_n 1, 1) := by decide +kernel
theorem dX6_flows_51 : decode cX6_flows 51 = .ok (.invokevirtual 83, 3) := by decide +kernel
theorem dX6_flows_54 : decode cX6_flows 54 = .ok (.istore_n 3, 1) := by decide +kernel
theorem dX6_flows_55 : decode cX6_flows 55 = .ok (.iload_n 3, 1) := by decide +kernel
theorem dX6_flows_56 : decode cX6_flows 56 = .ok (.aload_n 0, 1) := by decide +kernel
theorem dX6_flows_57 : decode cX6_flows 57 = .ok (.getfield 7, 3) := by decide +kernel
theorem dX6_flows_60 : decode cX6_flows 60 = .ok (.iconst 4, 1) := by decide +kernel
theorem dX6_flows_61 : decode cX6_flows 61 = .ok (.iaload, 1) := by decide +kernel
theorem dX6_flows_62 : decode cX6_flows 62 = .ok (.if_icmp .le 12, 3) := by decide +kernel
theorem dX6_flows_65 : decode cX6_flows 65 = .ok (.aload_n 0, 1) := by decide +kernel
theorem dX6_flows_66 : decode cX6_flows 66 = .ok (.getfield 7, 3) := by decide +kernel
theorem dX6_flows_69 : decode cX6_flows 69 = .ok (.iconst 4, 1) := by decide +kernel
theorem dX6_flows_70 : decode cX6_flows 70 = .ok (.iaload, 1) := by decide +kernel
theorem dX6_flows_71 : decode cX6_flows 71 = .ok (.goto 4, 3) := by decide +kernel
theorem dX6_flows_74 : decode cX6_flows 74 = .ok (.iload_n 3, 1) := by decide +kernel
theorem dX6_flows_75 : decode cX6_flows 75 = .ok (.istore_n 3, 1) := by decide +kernel
theorem dX6_flows_76 : decode cX6_flows 76 = .ok (.aload_n 0, 1) := by decide +kernel
theorem dX6_flows_77 : decode cX6_flows 77 = .ok (.getfield 7, 3) := by decide +kernel
theorem dX6_flows_80 : decode cX6_flows 80 = .ok (.iconst 4, 1) := by decide +kernel
theorem dX6_flows_81 : decode cX6_flows 81 = .ok (.dup2, 1) := by decide +kernel
theorem dX6_flows_82 : decode cX6_flows 82 = .ok (.iaload, 1) := by decide +kernel
theorem dX6_flows_83 : decode cX6_flows 83 = .ok (.iload_n 3, 1) := by decide +kernel
theorem dX6_flows_84 : decode cX6_flows 84 = .ok (.isub, 1) := by decide +kernel
theorem dX6_flows_85 : decode cX6_flows 85 = .ok (.iastore, 1) := by decide +kernel
theorem dX6_flows_86 : decode cX6_flows 86 = .ok (.aload_n 0, 1) := by decide +kernel
theorem dX6_flows_87 : decode cX6_flows 87 = .ok (.getfield 7, 3) := by decide +kernel
theorem dX6_flows_90 : decode cX6_flows 90 = .ok (.bipush 14, 2) := by decide +kernel
theorem dX6_flows_92 : decode cX6_flows 92 = .ok (.dup2, 1) := by decide +kernel
theorem dX6_flows_93 : decode cX6_flows 93 = .ok (.iaload, 1) := by decide +kernel
theorem dX6_flows_94 : decode cX6_flows 94 = .ok (.iload_n 3, 1) := by decide +kernel
theorem dX6_flows_95 : decode cX6_flows 95 = .ok (.iadd, 1) := by decide +kernel
theorem dX6_flows_96 : decode cX6_flows 96 = .ok (.iastore, 1) := by decide +kernel
theorem dX6_flows_97 : decode cX6_flows 97 = .ok (.aload_n 0, 1) := by decide +kernel
theorem dX6_flows_98 : decode cX6_flows 98 = .ok (.iload_n 2, 1) := by decide +kernel
theorem dX6_flows_99 : decode cX6_flows 99 = .ok (.iconst 3, 1) := by decide +kernel
theorem dX6_flows_100 : decode cX6_flows 100 = .ok (.aload_n 0, 1) := by decide +kernel
theorem dX6_flows_101 : decode cX6_flows 101 = .ok (.iload_n 2, 1) := by decide +kernel
theorem dX6_flows_102 : decode cX6_flows 102 = .ok (.iconst 3, 1) := by decide +kernel
theorem dX6_flows_103 : decode cX6_flows 103 = .ok (.invokevirtual 36, 3) := by decide +kernel
theorem dX6_flows_106 : decode cX6_flows 106 = .ok (.iload_n 3, 1) := by decide +kernel
theorem dX6_flows_107 : decode cX6_flows 107 = .ok (.iadd, 1) := by decide +kernel
theorem dX6_flows_108 : decode cX6_flows 108 = .ok (.invokevirtual 74, 3) := by decide +kernel
theorem dX6_flows_111 : decode cX6_flows 111 = .ok (.iinc 2 1, 3) := by decide +kernel
theorem dX6_flows_114 : decode cX6_flows 114 = .ok (.goto (-76), 3) := by decide +kernel
theorem dX6_flows_117 : decode cX6_flows 117 = .ok (.aload_n 0, 1) := by decide +kernel
theorem dX6_flows_118 : decode cX6_flows 118 = .ok (.getfield 7, 3) := by decide +kernel
theorem dX6_flows_121 : decode cX6_flows 121 = .ok (.iconst 4, 1) := by decide +kernel
theorem dX6_flows_122 : decode cX6_flows 122 = .ok (.iaload, 1) := by decide +kernel
theorem dX6_flows_123 : decode cX6_flows 123 = .ok (.sipush 9999, 3) := by decide +kernel
theorem dX6_flows_126 : decode cX6_flows 126 = .ok (.if_icmp .le 16, 3) := by decide +kernel
theorem dX6_flows_129 : decode cX6_flows 129 = .ok (.aload_n 0, 1) := by decide +kernel
theorem dX6_flows_130 : decode cX6_flows 130 = .ok (.getfield 7, 3) := by decide +kernel
theorem dX6_flows_133 : decode cX6_flows 133 = .ok (.iconst 4, 1) := by decide +kernel
theorem dX6_flows_134 : decode cX6_flows 134 = .ok (.iaload, 1) := by decide +kernel
theorem dX6_flows_135 : decode cX6_flows 135 = .ok (.sipush 9999, 3) := by decide +kernel
theorem dX6_flows_138 : decode cX6_flows 138 = .ok (.isub, 1) := by decide +kernel
theorem dX6_flows_139 : decode cX6_flows 139 = .ok (.goto 4, 3) := by decide +kernel
theorem dX6_flows_142 : decode cX6_flows 142 = .ok (.iconst 0, 1) := by decide +kernel
theorem dX6_flows_143 : decode cX6_flows 143 = .ok (.istore_n 2, 1) := by decide +kernel
theorem dX6_flows_144 : decode cX6_flows 144 = .ok (.aload_n 0, 1) := by decide +kernel
theorem dX6_flows_145 : decode cX6_flows 145 = .ok (.getfield 7, 3) := by decide +kernel
theorem dX6_flows_148 : decode cX6_flows 148 = .ok (.bipush 15, 2) := by decide +kernel
theorem dX6_flows_150 : decode cX6_flows 150 = .ok (.dup2, 1) := by decide +kernel
theorem dX6_flows_151 : decode cX6_flows 151 = .ok (.iaload, 1) := by decide +kernel
theorem dX6_flows_152 : decode cX6_flows 152 = .ok (.iload_n 2, 1) := by decide +kernel
theorem dX6_flows_153 : decode cX6_flows 153 = .ok (.iadd, 1) := by decide +kernel
theorem dX6_flows_154 : decode cX6_flows 154 = .ok (.iastore, 1) := by decide +kernel
theorem dX6_flows_155 : decode cX6_flows 155 = .ok (.aload_n 0, 1) := by decide +kernel
theorem dX6_flows_156 : decode cX6_flows 156 = .ok (.getfield 7, 3) := by decide +kernel
theorem dX6_flows_159 : decode cX6_flows 159 = .ok (.iconst 4, 1) := by decide +kernel
theorem dX6_flows_160 : decode cX6_flows 160 = .ok (.dup2, 1) := by decide +kernel
theorem dX6_flows_161 : decode cX6_flows 161 = .ok (.iaload, 1) := by decide +kernel
theorem dX6_flows_162 : decode cX6_flows 162 = .ok (.iload_n 2, 1) := by decide +kernel
theorem dX6_flows_163 : decode cX6_flows 163 = .ok (.isub, 1) := by decide +kernel
theorem dX6_flows_164 : decode cX6_flows 164 = .ok (.iastore, 1) := by decide +kernel
theorem dX6_flows_165 : decode cX6_flows 165 = .ok (.return_, 1) := by decide +kernel
set_option maxRecDepth 20000 in
theorem ggX6_passes_X6_floods : GoodIn wsX6_passes wsX6_floods := goodIn_r _ [6, 1, 7, 8, 9, 5, 10, 11, 12, 13, 14, 15, 16, 17, 18, 19, 20, 21, 22, 23, 24, 25, 26, 27, 75, 76, 77, 78, 79, 80, 81, 82, 83, 84, 85] (by decide +kernel) (by decide +kernel)
set_option maxRecDepth 20000 in
theorem gX6_passes_X6_floods : GoodIn wsX6_passes (wsV RX6 86 RX6 yX6_floods wsX6_floods) := goodIn_app (goodIn_of _ (by decide +kernel)) ggX6_passes_X6_floods
set_option maxRecDepth 20000 in
theorem ggX6_passes_X6_takes : GoodIn wsX6_passes wsX6_takes := goodIn_r _ [31, 1, 32, 33, 34, 5, 35, 19, 36, 37, 38, 39, 40, 41, 42, 20, 21, 22, 23, 24, 25, 26, 27, 43, 44, 45, 46, 47, 48, 49, 50, 75, 76, 77, 78, 79, 80, 81, 82, 83, 84, 85] (by decide +kernel) (by decide +kernel)
set_option maxRecDepth 20000 in
theorem gX6_passes_X6_takes : GoodIn wsX6_passes (wsV RX6 89 RX6 yX6_takes wsX6_takes) := goodIn_app (goodIn_of _ (by decide +kernel)) ggX6_passes_X6_takes
set_option maxRecDepth 20000 in
theorem ggX6_passes_X6_looks : GoodIn wsX6_passes wsX6_looks := goodIn_r _ [54, 1, 36, 37, 38, 5, 39, 75, 76, 77, 78, 79, 80, 81, 82, 83, 84, 85] (by decide +kernel) (by decide +kernel)
set_option maxRecDepth 20000 in
theorem gX6_passes_X6_looks : GoodIn wsX6_passes (wsV RX6 77 RX6 yX6_looks wsX6_looks) := goodIn_app (goodIn_of _ (by decide +kernel)) ggX6_passes_X6_looks
set_option maxRecDepth 20000 in
theorem ggX6_passes_X6_works : GoodIn wsX6_passes wsX6_works := goodIn_r _ [58, 1, 36, 37, 38, 5, 39, 40, 41, 42, 59, 60, 61, 62, 51, 52, 53, 54, 75, 76, 77, 78, 79, 80, 81, 82, 83, 84, 85] (by decide +kernel) (by decide +kernel)
set_option maxRecDepth 20000 in
theorem gX6_passes_X6_works : GoodIn wsX6_passes (wsV RX6 93 RX6 yX6_works wsX6_works) := goodIn_app (goodIn_of _ (by decide +kernel)) ggX6_passes_X6_works
set_option maxRecDepth 20000 in
theorem ggX6_passes_X6_flows : GoodIn wsX6_passes wsX6_flows := goodIn_r _ [66, 1, 67, 68, 69, 5, 70, 71, 72, 73, 74, 36, 37, 38, 39, 59, 60, 61, 62, 75, 76, 77, 78, 79, 80, 81, 82, 83, 84, 85] (by decide +kernel) (by decide +kernel)
set_option maxRecDepth 20000 in
theorem gX6_passes_X6_flows : GoodIn wsX6_passes (wsV RX6 96 RX6 yX6_flows wsX6_flows) := goodIn_app (goodIn_of _ (by decide +kernel)) ggX6_passes_X6_flows
theorem dX6_passes_0 : decode cX6_passes 0 = .ok (.aload_n 0, 1) := by decide +kernel
theorem dX6_passes_1 : decode cX6_passes 1 = .ok (.invokevirtual 86, 3) := by decide +kernel
theorem dX6_passes_4 : decode cX6_passes 4 = .ok (.aload_n 0, 1) := by decide +kernel
theorem dX6_passes_5 : decode cX6_passes 5 = .ok (.getfield 7, 3) := by decide +kernel
theorem dX6_passes_8 : decode cX6_passes 8 = .ok (.bipush 7, 2) := by decide +kernel
theorem dX6_passes_10 : decode cX6_passes 10 = .ok (.iaload, 1) := by decide +kernel
theorem dX6_passes_11 : decode cX6_passes 11 = .ok (.ifCond .ge 7, 3) := by decide +kernel
theorem dX6_passes_14 : decode cX6_passes 14 = .ok (.iconst 1, 1) := by decide +kernel
theorem dX6_passes_15 : decode cX6_passes 15 = .ok (.goto 4, 3) := by decide +kernel
theorem dX6_passes_18 : decode cX6_passes 18 = .ok (.iconst 0, 1) := by decide +kernel
theorem dX6_passes_19 : decode cX6_passes 19 = .ok (.istore_n 1, 1) := by decide +kernel
theorem dX6_passes_20 : decode cX6_passes 20 = .ok (.iload_n 1, 1) := by decide +kernel
theorem dX6_passes_21 : decode cX6_passes 21 = .ok (.ifCond .eq 35, 3) := by decide +kernel
theorem dX6_passes_24 : decode cX6_passes 24 = .ok (.aload_n 0, 1) := by decide +kernel
theorem dX6_passes_25 : decode cX6_passes 25 = .ok (.invokevirtual 89, 3) := by decide +kernel
theorem dX6_passes_28 : decode cX6_passes 28 = .ok (.istore_n 1, 1) := by decide +kernel
theorem dX6_passes_29 : decode cX6_passes 29 = .ok (.aload_n 0, 1) := by decide +kernel
theorem dX6_passes_30 : decode cX6_passes 30 = .ok (.invokevirtual 77, 3) := by decide +kernel
theorem dX6_passes_33 : decode cX6_passes 33 = .ok (.iload_n 1, 1) := by decide +kernel
theorem dX6_passes_34 : decode cX6_passes 34 = .ok (.ifCond .eq 17, 3) := by decide +kernel
theorem dX6_passes_37 : decode cX6_passes 37 = .ok (.aload_n 0, 1) := by decide +kernel
theorem dX6_passes_38 : decode cX6_passes 38 = .ok (.getfield 7, 3) := by decide +kernel
theorem dX6_passes_41 : decode cX6_passes 41 = .ok (.bipush 7, 2) := by decide +kernel
theorem dX6_passes_43 : decode cX6_passes 43 = .ok (.iaload, 1) := by decide +kernel
theorem dX6_passes_44 : decode cX6_passes 44 = .ok (.ifCond .ge 7, 3) := by decide +kernel
theorem dX6_passes_47 : decode cX6_passes 47 = .ok (.iconst 1, 1) := by decide +kernel
theorem dX6_passes_48 : decode cX6_passes 48 = .ok (.goto 4, 3) := by decide +kernel
theorem dX6_passes_51 : decode cX6_passes 51 = .ok (.iconst 0, 1) := by decide +kernel
theorem dX6_passes_52 : decode cX6_passes 52 = .ok (.istore_n 1, 1) := by decide +kernel
theorem dX6_passes_53 : decode cX6_passes 53 = .ok (.goto (-33), 3) := by decide +kernel
theorem dX6_passes_56 : decode cX6_passes 56 = .ok (.aload_n 0, 1) := by decide +kernel
theorem dX6_passes_57 : decode cX6_passes 57 = .ok (.getfield 7, 3) := by decide +kernel
theorem dX6_passes_60 : decode cX6_passes 60 = .ok (.bipush 7, 2) := by decide +kernel
theorem dX6_passes_62 : decode cX6_passes 62 = .ok (.iaload, 1) := by decide +kernel
theorem dX6_passes_63 : decode cX6_passes 63 = .ok (.ifCond .lt 7, 3) := by decide +kernel
theorem dX6_passes_66 : decode cX6_passes 66 = .ok (.aload_n 0, 1) := by decide +kernel
theorem dX6_passes_67 : decode cX6_passes 67 = .ok (.invokevirtual 93, 3) := by decide +kernel
theorem dX6_passes_70 : decode cX6_passes 70 = .ok (.aload_n 0, 1) := by decide +kernel
theorem dX6_passes_71 : decode cX6_passes 71 = .ok (.invokevirtual 96, 3) := by decide +kernel
theorem dX6_passes_74 : decode cX6_passes 74 = .ok (.aload_n 0, 1) := by decide +kernel
theorem dX6_passes_75 : decode cX6_passes 75 = .ok (.getfield 7, 3) := by decide +kernel
theorem dX6_passes_78 : decode cX6_passes 78 = .ok (.bipush 12, 2) := by decide +kernel
theorem dX6_passes_80 : decode cX6_passes 80 = .ok (.dup2, 1) := by decide +kernel
theorem dX6_passes_81 : decode cX6_passes 81 = .ok (.iaload, 1) := by decide +kernel
theorem dX6_passes_82 : decode cX6_passes 82 = .ok (.iconst 1, 1) := by decide +kernel
theorem dX6_passes_83 : decode cX6_passes 83 = .ok (.iadd, 1) := by decide +kernel
theorem dX6_passes_84 : decode cX6_passes 84 = .ok (.iastore, 1) := by decide +kernel
theorem dX6_passes_85 : decode cX6_passes 85 = .ok (.return_, 1) := by decide +kernel
set_option maxRecDepth 20000 in
theorem ggX6_gate_X6_in : GoodIn wsX6_gate wsX6_in := goodIn_r _ [7] (by decide +kernel) (by decide +kernel)
set_option maxRecDepth 20000 in
theorem gX6_gate_X6_in : GoodIn wsX6_gate (va_wsS RX6 99 yX6_in wsX6_in) := goodIn_app (goodIn_of _ (by decide +kernel)) ggX6_gate_X6_in
set_option maxRecDepth 20000 in
theorem ggX6_gate_X6_changes : GoodIn wsX6_gate wsX6_changes := goodIn_r _ [11, 12, 13, 14, 2, 19, 20, 21, 22, 23, 24, 25, 26, 27, 28, 29] (by decide +kernel) (by decide +kernel)
set_option maxRecDepth 20000 in
theorem gX6_gate_X6_changes : GoodIn wsX6_gate (wsV RX6 105 RX6 yX6_changes wsX6_changes) := goodIn_app (goodIn_of _ (by decide +kernel)) ggX6_gate_X6_changes
set_option maxRecDepth 20000 in
theorem ggX6_gate_X6_puts : GoodIn wsX6_gate wsX6_puts := goodIn_r _ [18, 2, 19, 20, 21, 22, 23, 24, 25, 26, 27, 28, 29] (by decide +kernel) (by decide +kernel)
set_option maxRecDepth 20000 in
theorem gX6_gate_X6_puts : GoodIn wsX6_gate (wsV RX6 74 RX6 yX6_puts wsX6_puts) := goodIn_app (goodIn_of _ (by decide +kernel)) ggX6_gate_X6_puts
theorem dX6_gate_0 : decode cX6_gate 0 = .ok (.iload_n 1, 1) := by decide +kernel
theorem dX6_gate_1 : decode cX6_gate 1 = .ok (.iconst 0, 1) := by decide +kernel
theorem dX6_gate_2 : decode cX6_gate 2 = .ok (.iconst 2, 1) := by decide +kernel
theorem dX6_gate_3 : decode cX6_gate 3 = .ok (.invokestatic 99, 3) := by decide +kernel
theorem dX6_gate_6 : decode cX6_gate 6 = .ok (.ifCond .eq 13, 3) := by decide +kernel
theorem dX6_gate_9 : decode cX6_gate 9 = .ok (.iload_n 2, 1) := by decide +kernel
theorem dX6_gate_10 : decode cX6_gate 10 = .ok (.iconst 1, 1) := by decide +kernel
theorem dX6_gate_11 : decode cX6_gate 11 = .ok (.bipush 20, 2) := by decide +kernel
theorem dX6_gate_13 : decode cX6_gate 13 = .ok (.invokestatic 99, 3) := by decide +kernel
theorem dX6_gate_16 : decode cX6_gate 16 = .ok (.ifCond .ne 6, 3) := by decide +kernel
theorem dX6_gate_19 : decode cX6_gate 19 = .ok (.ldc 103, 2) := by decide +kernel
theorem dX6_gate_21 : decode cX6_gate 21 = .ok (.ireturn, 1) := by decide +kernel
theorem dX6_gate_22 : decode cX6_gate 22 = .ok (.aload_n 0, 1) := by decide +kernel
theorem dX6_gate_23 : decode cX6_gate 23 = .ok (.getfield 7, 3) := by decide +kernel
theorem dX6_gate_26 : decode cX6_gate 26 = .ok (.iconst 3, 1) := by decide +kernel
theorem dX6_gate_27 : decode cX6_gate 27 = .ok (.iaload, 1) := by decide +kernel
theorem dX6_gate_28 : decode cX6_gate 28 = .ok (.bipush 8, 2) := by decide +kernel
theorem dX6_gate_30 : decode cX6_gate 30 = .ok (.if_icmp .ne 6, 3) := by decide +kernel
theorem dX6_gate_33 : decode cX6_gate 33 = .ok (.ldc 104, 2) := by decide +kernel
theorem dX6_gate_35 : decode cX6_gate 35 = .ok (.ireturn, 1) := by decide +kernel
theorem dX6_gate_36 : decode cX6_gate 36 = .ok (.aload_n 0, 1) := by decide +kernel
theorem dX6_gate_37 : decode cX6_gate 37 = .ok (.invokevirtual 105, 3) := by decide +kernel
theorem dX6_gate_40 : decode cX6_gate 40 = .ok (.aload_n 0, 1) := by decide +kernel
theorem dX6_gate_41 : decode cX6_gate 41 = .ok (.getfield 7, 3) := by decide +kernel
theorem dX6_gate_44 : decode cX6_gate 44 = .ok (.iconst 3, 1) := by decide +kernel
theorem dX6_gate_45 : decode cX6_gate 45 = .ok (.iaload, 1) := by decide +kernel
theorem dX6_gate_46 : decode cX6_gate 46 = .ok (.istore_n 3, 1) := by decide +kernel
theorem dX6_gate_47 : decode cX6_gate 47 = .ok (.aload_n 0, 1) := by decide +kernel
theorem dX6_gate_48 : decode cX6_gate 48 = .ok (.getfield 7, 3) := by decide +kernel
theorem dX6_gate_51 : decode cX6_gate 51 = .ok (.iconst 3, 1) := by decide +kernel
theorem dX6_gate_52 : decode cX6_gate 52 = .ok (.dup2, 1) := by decide +kernel
theorem dX6_gate_53 : decode cX6_gate 53 = .ok (.iaload, 1) := by decide +kernel
theorem dX6_gate_54 : decode cX6_gate 54 = .ok (.iconst 1, 1) := by decide +kernel
theorem dX6_gate_55 : decode cX6_gate 55 = .ok (.iadd, 1) := by decide +kernel
theorem dX6_gate_56 : decode cX6_gate 56 = .ok (.iastore, 1) := by decide +kernel
theorem dX6_gate_57 : decode cX6_gate 57 = .ok (.iconst 0, 1) := by decide +kernel
theorem dX6_gate_58 : decode cX6_gate 58 = .ok (.istore 4, 2) := by decide +kernel
theorem dX6_gate_60 : decode cX6_gate 60 = .ok (.iload 4, 2) := by decide +kernel
theorem dX6_gate_62 : decode cX6_gate 62 = .ok (.iconst 5, 1) := by decide +kernel
theorem dX6_gate_63 : decode cX6_gate 63 = .ok (.if_icmp .ge 36, 3) := by decide +kernel
theorem dX6_gate_66 : decode cX6_gate 66 = .ok (.aload_n 0, 1) := by decide +kernel
theorem dX6_gate_67 : decode cX6_gate 67 = .ok (.iload_n 3, 1) := by decide +kernel
theorem dX6_gate_68 : decode cX6_gate 68 = .ok (.iload 4, 2) := by decide +kernel
theorem dX6_gate_70 : decode cX6_gate 70 = .ok (.iload 4, 2) := by decide +kernel
theorem dX6_gate_72 : decode cX6_gate 72 = .ok (.ifCond .ne 7, 3) := by decide +kernel
theorem dX6_gate_75 : decode cX6_gate 75 = .ok (.iload_n 1, 1) := by decide +kernel
theorem dX6_gate_76 : decode cX6_gate 76 = .ok (.goto 14, 3) := by decide +kernel
theorem dX6_gate_79 : decode cX6_gate 79 = .ok (.iload 4, 2) := by decide +kernel
theorem dX6_gate_81 : decode cX6_gate 81 = .ok (.iconst 1, 1) := by decide +kernel
theorem dX6_gate_82 : decode cX6_gate 82 = .ok (.if_icmp .ne 7, 3) := by decide +kernel
theorem dX6_gate_85 : decode cX6_gate 85 = .ok (.iload_n 2, 1) := by decide +kernel
theorem dX6_gate_86 : decode cX6_gate 86 = .ok (.goto 4, 3) := by decide +kernel
theorem dX6_gate_89 : decode cX6_gate 89 = .ok (.iconst 0, 1) := by decide +kernel
theorem dX6_gate_90 : decode cX6_gate 90 = .ok (.invokevirtual 74, 3) := by decide +kernel
theorem dX6_gate_93 : decode cX6_gate 93 = .ok (.iinc 4 1, 3) := by decide +kernel
theorem dX6_gate_96 : decode cX6_gate 96 = .ok (.goto (-36), 3) := by decide +kernel
theorem dX6_gate_99 : decode cX6_gate 99 = .ok (.iload_n 3, 1) := by decide +kernel
theorem dX6_gate_100 : decode cX6_gate 100 = .ok (.ireturn, 1) := by decide +kernel
set_option maxRecDepth 20000 in
theorem ggX6_order_X6_isGate : GoodIn wsX6_order wsX6_isGate := goodIn_r _ [8, 3, 44, 45, 46, 47, 48, 49, 50, 51, 52, 53, 54] (by decide +kernel) (by decide +kernel)
set_option maxRecDepth 20000 in
theorem gX6_order_X6_isGate : GoodIn wsX6_order (wsV RX6 108 RX6 yX6_isGate wsX6_isGate) := goodIn_app (goodIn_of _ (by decide +kernel)) ggX6_order_X6_isGate
set_option maxRecDepth 20000 in
theorem ggX6_order_X6_in : GoodIn wsX6_order wsX6_in := goodIn_r _ [11] (by decide +kernel) (by decide +kernel)
set_option maxRecDepth 20000 in
theorem gX6_order_X6_in : GoodIn wsX6_order (va_wsS RX6 99 yX6_in wsX6_in) := goodIn_app (goodIn_of _ (by decide +kernel)) ggX6_order_X6_in
set_option maxRecDepth 20000 in
theorem ggX6_order_X6_of : GoodIn wsX6_order wsX6_of := goodIn_r _ [15, 3, 44, 45, 46, 47, 48, 49, 50, 51, 52, 53, 54] (by decide +kernel) (by decide +kernel)
set_option maxRecDepth 20000 in
theorem gX6_order_X6_of : GoodIn wsX6_order (wsV RX6 36 RX6 yX6_of wsX6_of) := goodIn_app (goodIn_of _ (by decide +kernel)) ggX6_order_X6_of
set_option maxRecDepth 20000 in
theorem ggX6_order_X6_changes : GoodIn wsX6_order wsX6_changes := goodIn_r _ [19, 20, 21, 22, 3, 44, 45, 46, 47, 48, 49, 50, 51, 52, 53, 54] (by decide +kernel) (by decide +kernel)
set_option maxRecDepth 20000 in
theorem gX6_order_X6_changes : GoodIn wsX6_order (wsV RX6 105 RX6 yX6_changes wsX6_changes) := goodIn_app (goodIn_of _ (by decide +kernel)) ggX6_order_X6_changes
set_option maxRecDepth 20000 in
theorem ggX6_order_X6_orderOf : GoodIn wsX6_order wsX6_orderOf := goodIn_r _ [26, 3, 27, 28, 29, 7, 30, 31, 44, 45, 46, 47, 48, 49, 50, 51, 52, 53, 54] (by decide +kernel) (by decide +kernel)
set_option maxRecDepth 20000 in
theorem gX6_order_X6_orderOf : GoodIn wsX6_order (wsV RX6 113 RX6 yX6_orderOf wsX6_orderOf) := goodIn_app (goodIn_of _ (by decide +kernel)) ggX6_order_X6_orderOf
set_option maxRecDepth 20000 in
theorem ggX6_order_X6_markOf : GoodIn wsX6_order wsX6_markOf := goodIn_r _ [35, 3, 27, 28, 29, 7, 30, 31, 44, 45, 46, 47, 48, 49, 50, 51, 52, 53, 54] (by decide +kernel) (by decide +kernel)
set_option maxRecDepth 20000 in
theorem gX6_order_X6_markOf : GoodIn wsX6_order (wsV RX6 49 RX6 yX6_markOf wsX6_markOf) := goodIn_app (goodIn_of _ (by decide +kernel)) ggX6_order_X6_markOf
set_option maxRecDepth 20000 in
theorem ggX6_order_X6_dropsMark : GoodIn wsX6_order wsX6_dropsMark := goodIn_r _ [39, 3, 40, 41, 42, 7, 43, 44, 45, 46, 47, 48, 49, 50, 51, 52, 53, 54] (by decide +kernel) (by decide +kernel)
set_option maxRecDepth 20000 in
theorem gX6_order_X6_dropsMark : GoodIn wsX6_order (wsV RX6 53 RX6 yX6_dropsMark wsX6_dropsMark) := goodIn_app (goodIn_of _ (by decide +kernel)) ggX6_order_X6_dropsMark
theorem dX6_order_0 : decode cX6_order 0 = .ok (.aload_n 0, 1) := by decide +kernel
theorem dX6_order_1 : decode cX6_order 1 = .ok (.iload_n 1, 1) := by decide +kernel
theorem dX6_order_2 : decode cX6_order 2 = .ok (.invokevirtual 108, 3) := by decide +kernel
theorem dX6_order_5 : decode cX6_order 5 = .ok (.ifCond .eq 13, 3) := by decide +kernel
theorem dX6_order_8 : decode cX6_order 8 = .ok (.iload_n 2, 1) := by decide +kernel
theorem dX6_order_9 : decode cX6_order 9 = .ok (.iconst 0, 1) := by decide +kernel
theorem dX6_order_10 : decode cX6_order 10 = .ok (.bipush 10, 2) := by decide +kernel
theorem dX6_order_12 : decode cX6_order 12 = .ok (.invokestatic 99, 3) := by decide +kernel
theorem dX6_order_15 : decode cX6_order 15 = .ok (.ifCond .ne 6, 3) := by decide +kernel
theorem dX6_order_18 : decode cX6_order 18 = .ok (.ldc 103, 2) := by decide +kernel
theorem dX6_order_20 : decode cX6_order 20 = .ok (.ireturn, 1) := by decide +kernel
theorem dX6_order_21 : decode cX6_order 21 = .ok (.aload_n 0, 1) := by decide +kernel
theorem dX6_order_22 : decode cX6_order 22 = .ok (.iload_n 1, 1) := by decide +kernel
theorem dX6_order_23 : decode cX6_order 23 = .ok (.iconst 0, 1) := by decide +kernel
theorem dX6_order_24 : decode cX6_order 24 = .ok (.invokevirtual 36, 3) := by decide +kernel
theorem dX6_order_27 : decode cX6_order 27 = .ok (.iconst 2, 1) := by decide +kernel
theorem dX6_order_28 : decode cX6_order 28 = .ok (.if_icmp .ne 13, 3) := by decide +kernel
theorem dX6_order_31 : decode cX6_order 31 = .ok (.iload_n 2, 1) := by decide +kernel
theorem dX6_order_32 : decode cX6_order 32 = .ok (.iconst 2, 1) := by decide +kernel
theorem dX6_order_33 : decode cX6_order 33 = .ok (.irem, 1) := by decide +kernel
theorem dX6_order_34 : decode cX6_order 34 = .ok (.iconst 1, 1) := by decide +kernel
theorem dX6_order_35 : decode cX6_order 35 = .ok (.if_icmp .ne 6, 3) := by decide +kernel
theorem dX6_order_38 : decode cX6_order 38 = .ok (.ldc 112, 2) := by decide +kernel
theorem dX6_order_40 : decode cX6_order 40 = .ok (.ireturn, 1) := by decide +kernel
theorem dX6_order_41 : decode cX6_order 41 = .ok (.aload_n 0, 1) := by decide +kernel
theorem dX6_order_42 : decode cX6_order 42 = .ok (.invokevirtual 105, 3) := by decide +kernel
theorem dX6_order_45 : decode cX6_order 45 = .ok (.aload_n 0, 1) := by decide +kernel
theorem dX6_order_46 : decode cX6_order 46 = .ok (.iload_n 1, 1) := by decide +kernel
theorem dX6_order_47 : decode cX6_order 47 = .ok (.invokevirtual 113, 3) := by decide +kernel
theorem dX6_order_50 : decode cX6_order 50 = .ok (.istore_n 3, 1) := by decide +kernel
theorem dX6_order_51 : decode cX6_order 51 = .ok (.iload_n 3, 1) := by decide +kernel
theorem dX6_order_52 : decode cX6_order 52 = .ok (.ifCond .ge 13, 3) := by decide +kernel
theorem dX6_order_55 : decode cX6_order 55 = .ok (.aload_n 0, 1) := by decide +kernel
theorem dX6_order_56 : decode cX6_order 56 = .ok (.getfield 7, 3) := by decide +kernel
theorem dX6_order_59 : decode cX6_order 59 = .ok (.bipush 10, 2) := by decide +kernel
theorem dX6_order_61 : decode cX6_order 61 = .ok (.iaload, 1) := by decide +kernel
theorem dX6_order_62 : decode cX6_order 62 = .ok (.goto 4, 3) := by decide +kernel
theorem dX6_order_65 : decode cX6_order 65 = .ok (.iload_n 3, 1) := by decide +kernel
theorem dX6_order_66 : decode cX6_order 66 = .ok (.istore 4, 2) := by decide +kernel
theorem dX6_order_68 : decode cX6_order 68 = .ok (.aload_n 0, 1) := by decide +kernel
theorem dX6_order_69 : decode cX6_order 69 = .ok (.getfield 7, 3) := by decide +kernel
theorem dX6_order_72 : decode cX6_order 72 = .ok (.bipush 10, 2) := by decide +kernel
theorem dX6_order_74 : decode cX6_order 74 = .ok (.dup2, 1) := by decide +kernel
theorem dX6_order_75 : decode cX6_order 75 = .ok (.iaload, 1) := by decide +kernel
theorem dX6_order_76 : decode cX6_order 76 = .ok (.iload_n 3, 1) := by decide +kernel
theorem dX6_order_77 : decode cX6_order 77 = .ok (.ifCond .ge 7, 3) := by decide +kernel
theorem dX6_order_80 : decode cX6_order 80 = .ok (.iconst 1, 1) := by decide +kernel
theorem dX6_order_81 : decode cX6_order 81 = .ok (.goto 4, 3) := by decide +kernel
theorem dX6_order_84 : decode cX6_order 84 = .ok (.iconst 0, 1) := by decide +kernel
theorem dX6_order_85 : decode cX6_order 85 = .ok (.iadd, 1) := by decide +kernel
theorem dX6_order_86 : decode cX6_order 86 = .ok (.iastore, 1) := by decide +kernel
theorem dX6_order_87 : decode cX6_order 87 = .ok (.aload_n 0, 1) := by decide +kernel
theorem dX6_order_88 : decode cX6_order 88 = .ok (.getfield 7, 3) := by decide +kernel
theorem dX6_order_91 : decode cX6_order 91 = .ok (.bipush 20, 2) := by decide +kernel
theorem dX6_order_93 : decode cX6_order 93 = .ok (.iconst 2, 1) := by decide +kernel
theorem dX6_order_94 : decode cX6_order 94 = .ok (.iload 4, 2) := by decide +kernel
theorem dX6_order_96 : decode cX6_order 96 = .ok (.imul, 1) := by decide +kernel
theorem dX6_order_97 : decode cX6_order 97 = .ok (.iadd, 1) := by decide +kernel
theorem dX6_order_98 : decode cX6_order 98 = .ok (.iload_n 1, 1) := by decide +kernel
theorem dX6_order_99 : decode cX6_order 99 = .ok (.iastore, 1) := by decide +kernel
theorem dX6_order_100 : decode cX6_order 100 = .ok (.aload_n 0, 1) := by decide +kernel
theorem dX6_order_101 : decode cX6_order 101 = .ok (.getfield 7, 3) := by decide +kernel
theorem dX6_order_104 : decode cX6_order 104 = .ok (.bipush 20, 2) := by decide +kernel
theorem dX6_order_106 : decode cX6_order 106 = .ok (.iconst 2, 1) := by decide +kernel
theorem dX6_order_107 : decode cX6_order 107 = .ok (.iload 4, 2) := by decide +kernel
theorem dX6_order_109 : decode cX6_order 109 = .ok (.imul, 1) := by decide +kernel
theorem dX6_order_110 : decode cX6_order 110 = .ok (.iadd, 1) := by decide +kernel
theorem dX6_order_111 : decode cX6_order 111 = .ok (.iconst 1, 1) := by decide +kernel
theorem dX6_order_112 : decode cX6_order 112 = .ok (.iadd, 1) := by decide +kernel
theorem dX6_order_113 : decode cX6_order 113 = .ok (.iload_n 2, 1) := by decide +kernel
theorem dX6_order_114 : decode cX6_order 114 = .ok (.iastore, 1) := by decide +kernel
theorem dX6_order_115 : decode cX6_order 115 = .ok (.aload_n 0, 1) := by decide +kernel
theorem dX6_order_116 : decode cX6_order 116 = .ok (.iload_n 1, 1) := by decide +kernel
theorem dX6_order_117 : decode cX6_order 117 = .ok (.invokevirtual 49, 3) := by decide +kernel
theorem dX6_order_120 : decode cX6_order 120 = .ok (.ifCond .lt 12, 3) := by decide +kernel
theorem dX6_order_123 : decode cX6_order 123 = .ok (.aload_n 0, 1) := by decide +kernel
theorem dX6_order_124 : decode cX6_order 124 = .ok (.aload_n 0, 1) := by decide +kernel
theorem dX6_order_125 : decode cX6_order 125 = .ok (.iload_n 1, 1) := by decide +kernel
theorem dX6_order_126 : decode cX6_order 126 = .ok (.invokevirtual 49, 3) := by decide +kernel
theorem dX6_order_129 : decode cX6_order 129 = .ok (.invokevirtual 53, 3) := by decide +kernel
theorem dX6_order_132 : decode cX6_order 132 = .ok (.aload_n 0, 1) := by decide +kernel
theorem dX6_order_133 : decode cX6_order 133 = .ok (.getfield 7, 3) := by decide +kernel
theorem dX6_order_136 : decode cX6_order 136 = .ok (.bipush 10, 2) := by decide +kernel
theorem dX6_order_138 : decode cX6_order 138 = .ok (.iaload, 1) := by decide +kernel
theorem dX6_order_139 : decode cX6_order 139 = .ok (.ireturn, 1) := by decide +kernel
set_option maxRecDepth 20000 in
theorem ggX6_cancel_X6_isGate : GoodIn wsX6_cancel wsX6_isGate := goodIn_r _ [8, 3, 33, 34, 35, 36, 37, 38, 39, 40, 41, 42, 43] (by decide +kernel) (by decide +kernel)
set_option maxRecDepth 20000 in
theorem gX6_cancel_X6_isGate : GoodIn wsX6_cancel (wsV RX6 108 RX6 yX6_isGate wsX6_isGate) := goodIn_app (goodIn_of _ (by decide +kernel)) ggX6_cancel_X6_isGate
set_option maxRecDepth 20000 in
theorem ggX6_cancel_X6_orderOf : GoodIn wsX6_cancel wsX6_orderOf := goodIn_r _ [12, 3, 13, 14, 15, 7, 16, 17, 33, 34, 35, 36, 37, 38, 39, 40, 41, 42, 43] (by decide +kernel) (by decide +kernel)
set_option maxRecDepth 20000 in
theorem gX6_cancel_X6_orderOf : GoodIn wsX6_cancel (wsV RX6 113 RX6 yX6_orderOf wsX6_orderOf) := goodIn_app (goodIn_of _ (by decide +kernel)) ggX6_cancel_X6_orderOf
set_option maxRecDepth 20000 in
theorem ggX6_cancel_X6_changes : GoodIn wsX6_cancel wsX6_changes := goodIn_r _ [21, 22, 23, 24, 3, 33, 34, 35, 36, 37, 38, 39, 40, 41, 42, 43] (by decide +kernel) (by decide +kernel)
set_option maxRecDepth 20000 in
theorem gX6_cancel_X6_changes : GoodIn wsX6_cancel (wsV RX6 105 RX6 yX6_changes wsX6_changes) := goodIn_app (goodIn_of _ (by decide +kernel)) ggX6_cancel_X6_changes
set_option maxRecDepth 20000 in
theorem ggX6_cancel_X6_dropsOrder : GoodIn wsX6_cancel wsX6_dropsOrder := goodIn_r _ [28, 3, 29, 30, 31, 7, 32, 33, 34, 35, 36, 37, 38, 39, 40, 41, 42, 43] (by decide +kernel) (by decide +kernel)
set_option maxRecDepth 20000 in
theorem gX6_cancel_X6_dropsOrder : GoodIn wsX6_cancel (wsV RX6 71 RX6 yX6_dropsOrder wsX6_dropsOrder) := goodIn_app (goodIn_of _ (by decide +kernel)) ggX6_cancel_X6_dropsOrder
theorem dX6_cancel_0 : decode cX6_cancel 0 = .ok (.aload_n 0, 1) := by decide +kernel
theorem dX6_cancel_1 : decode cX6_cancel 1 = .ok (.iload_n 1, 1) := by decide +kernel
theorem dX6_cancel_2 : decode cX6_cancel 2 = .ok (.invokevirtual 108, 3) := by decide +kernel
theorem dX6_cancel_5 : decode cX6_cancel 5 = .ok (.ifCond .ne 6, 3) := by decide +kernel
theorem dX6_cancel_8 : decode cX6_cancel 8 = .ok (.ldc 103, 2) := by decide +kernel
theorem dX6_cancel_10 : decode cX6_cancel 10 = .ok (.ireturn, 1) := by decide +kernel
theorem dX6_cancel_11 : decode cX6_cancel 11 = .ok (.aload_n 0, 1) := by decide +kernel
theorem dX6_cancel_12 : decode cX6_cancel 12 = .ok (.iload_n 1, 1) := by decide +kernel
theorem dX6_cancel_13 : decode cX6_cancel 13 = .ok (.invokevirtual 113, 3) := by decide +kernel
theorem dX6_cancel_16 : decode cX6_cancel 16 = .ok (.istore_n 2, 1) := by decide +kernel
theorem dX6_cancel_17 : decode cX6_cancel 17 = .ok (.iload_n 2, 1) := by decide +kernel
theorem dX6_cancel_18 : decode cX6_cancel 18 = .ok (.ifCond .ge 6, 3) := by decide +kernel
theorem dX6_cancel_21 : decode cX6_cancel 21 = .ok (.ldc 112, 2) := by decide +kernel
theorem dX6_cancel_23 : decode cX6_cancel 23 = .ok (.ireturn, 1) := by decide +kernel
theorem dX6_cancel_24 : decode cX6_cancel 24 = .ok (.aload_n 0, 1) := by decide +kernel
theorem dX6_cancel_25 : decode cX6_cancel 25 = .ok (.invokevirtual 105, 3) := by decide +kernel
theorem dX6_cancel_28 : decode cX6_cancel 28 = .ok (.aload_n 0, 1) := by decide +kernel
theorem dX6_cancel_29 : decode cX6_cancel 29 = .ok (.getfield 7, 3) := by decide +kernel
theorem dX6_cancel_32 : decode cX6_cancel 32 = .ok (.bipush 20, 2) := by decide +kernel
theorem dX6_cancel_34 : decode cX6_cancel 34 = .ok (.iconst 2, 1) := by decide +kernel
theorem dX6_cancel_35 : decode cX6_cancel 35 = .ok (.iload_n 2, 1) := by decide +kernel
theorem dX6_cancel_36 : decode cX6_cancel 36 = .ok (.imul, 1) := by decide +kernel
theorem dX6_cancel_37 : decode cX6_cancel 37 = .ok (.iadd, 1) := by decide +kernel
theorem dX6_cancel_38 : decode cX6_cancel 38 = .ok (.iconst 1, 1) := by decide +kernel
theorem dX6_cancel_39 : decode cX6_cancel 39 = .ok (.iadd, 1) := by decide +kernel
theorem dX6_cancel_40 : decode cX6_cancel 40 = .ok (.iaload, 1) := by decide +kernel
theorem dX6_cancel_41 : decode cX6_cancel 41 = .ok (.istore_n 3, 1) := by decide +kernel
theorem dX6_cancel_42 : decode cX6_cancel 42 = .ok (.aload_n 0, 1) := by decide +kernel
theorem dX6_cancel_43 : decode cX6_cancel 43 = .ok (.iload_n 2, 1) := by decide +kernel
theorem dX6_cancel_44 : decode cX6_cancel 44 = .ok (.invokevirtual 71, 3) := by decide +kernel
theorem dX6_cancel_47 : decode cX6_cancel 47 = .ok (.iload_n 3, 1) := by decide +kernel
theorem dX6_cancel_48 : decode cX6_cancel 48 = .ok (.ireturn, 1) := by decide +kernel
set_option maxRecDepth 20000 in
theorem ggX6_sets_X6_changes : GoodIn wsX6_sets wsX6_changes := goodIn_r _ [6, 7, 8, 9, 1, 10, 11, 12, 13, 14, 15, 16, 17, 18, 19, 20] (by decide +kernel) (by decide +kernel)
set_option maxRecDepth 20000 in
theorem gX6_sets_X6_changes : GoodIn wsX6_sets (wsV RX6 105 RX6 yX6_changes wsX6_changes) := goodIn_app (goodIn_of _ (by decide +kernel)) ggX6_sets_X6_changes
theorem dX6_sets_0 : decode cX6_sets 0 = .ok (.aload_n 0, 1) := by decide +kernel
theorem dX6_sets_1 : decode cX6_sets 1 = .ok (.invokevirtual 105, 3) := by decide +kernel
theorem dX6_sets_4 : decode cX6_sets 4 = .ok (.aload_n 0, 1) := by decide +kernel
theorem dX6_sets_5 : decode cX6_sets 5 = .ok (.getfield 7, 3) := by decide +kernel
theorem dX6_sets_8 : decode cX6_sets 8 = .ok (.iload_n 1, 1) := by decide +kernel
theorem dX6_sets_9 : decode cX6_sets 9 = .ok (.iaload, 1) := by decide +kernel
theorem dX6_sets_10 : decode cX6_sets 10 = .ok (.istore_n 3, 1) := by decide +kernel
theorem dX6_sets_11 : decode cX6_sets 11 = .ok (.aload_n 0, 1) := by decide +kernel
theorem dX6_sets_12 : decode cX6_sets 12 = .ok (.getfield 7, 3) := by decide +kernel
theorem dX6_sets_15 : decode cX6_sets 15 = .ok (.iload_n 1, 1) := by decide +kernel
theorem dX6_sets_16 : decode cX6_sets 16 = .ok (.iload_n 2, 1) := by decide +kernel
theorem dX6_sets_17 : decode cX6_sets 17 = .ok (.iastore, 1) := by decide +kernel
theorem dX6_sets_18 : decode cX6_sets 18 = .ok (.iload_n 3, 1) := by decide +kernel
theorem dX6_sets_19 : decode cX6_sets 19 = .ok (.ireturn, 1) := by decide +kernel
set_option maxRecDepth 20000 in
theorem ggX6_inflow_X6_in : GoodIn wsX6_inflow wsX6_in := goodIn_r _ [5] (by decide +kernel) (by decide +kernel)
set_option maxRecDepth 20000 in
theorem gX6_inflow_X6_in : GoodIn wsX6_inflow (va_wsS RX6 99 yX6_in wsX6_in) := goodIn_app (goodIn_of _ (by decide +kernel)) ggX6_inflow_X6_in
set_option maxRecDepth 20000 in
theorem ggX6_inflow_X6_sets : GoodIn wsX6_inflow wsX6_sets := goodIn_r _ [9, 10, 11, 12, 13, 4, 14, 15, 16, 17, 18, 19, 20, 21, 22, 23, 24, 25, 26, 27, 28] (by decide +kernel) (by decide +kernel)
set_option maxRecDepth 20000 in
theorem gX6_inflow_X6_sets : GoodIn wsX6_inflow (wsV RX6 116 RX6 yX6_sets wsX6_sets) := goodIn_app (goodIn_of _ (by decide +kernel)) ggX6_inflow_X6_sets
theorem dX6_inflow_0 : decode cX6_inflow 0 = .ok (.iload_n 1, 1) := by decide +kernel
theorem dX6_inflow_1 : decode cX6_inflow 1 = .ok (.iconst 0, 1) := by decide +kernel
theorem dX6_inflow_2 : decode cX6_inflow 2 = .ok (.sipush 300, 3) := by decide +kernel
theorem dX6_inflow_5 : decode cX6_inflow 5 = .ok (.invokestatic 99, 3) := by decide +kernel
theorem dX6_inflow_8 : decode cX6_inflow 8 = .ok (.ifCond .eq 12, 3) := by decide +kernel
theorem dX6_inflow_11 : decode cX6_inflow 11 = .ok (.aload_n 0, 1) := by decide +kernel
theorem dX6_inflow_12 : decode cX6_inflow 12 = .ok (.iconst 5, 1) := by decide +kernel
theorem dX6_inflow_13 : decode cX6_inflow 13 = .ok (.iload_n 1, 1) := by decide +kernel
theorem dX6_inflow_14 : decode cX6_inflow 14 = .ok (.invokevirtual 116, 3) := by decide +kernel
theorem dX6_inflow_17 : decode cX6_inflow 17 = .ok (.goto 5, 3) := by decide +kernel
theorem dX6_inflow_20 : decode cX6_inflow 20 = .ok (.ldc 103, 2) := by decide +kernel
theorem dX6_inflow_22 : decode cX6_inflow 22 = .ok (.ireturn, 1) := by decide +kernel
set_option maxRecDepth 20000 in
theorem ggX6_fill_X6_in : GoodIn wsX6_fill wsX6_in := goodIn_r _ [5] (by decide +kernel) (by decide +kernel)
set_option maxRecDepth 20000 in
theorem gX6_fill_X6_in : GoodIn wsX6_fill (va_wsS RX6 99 yX6_in wsX6_in) := goodIn_app (goodIn_of _ (by decide +kernel)) ggX6_fill_X6_in
set_option maxRecDepth 20000 in
theorem ggX6_fill_X6_sets : GoodIn wsX6_fill wsX6_sets := goodIn_r _ [9, 10, 11, 12, 13, 4, 14, 15, 16, 17, 18, 19, 20, 21, 22, 23, 24, 25, 26, 27, 28] (by decide +kernel) (by decide +kernel)
set_option maxRecDepth 20000 in
theorem gX6_fill_X6_sets : GoodIn wsX6_fill (wsV RX6 116 RX6 yX6_sets wsX6_sets) := goodIn_app (goodIn_of _ (by decide +kernel)) ggX6_fill_X6_sets
theorem dX6_fill_0 : decode cX6_fill 0 = .ok (.iload_n 1, 1) := by decide +kernel
theorem dX6_fill_1 : decode cX6_fill 1 = .ok (.iconst 0, 1) := by decide +kernel
theorem dX6_fill_2 : decode cX6_fill 2 = .ok (.sipush 9999, 3) := by decide +kernel
theorem dX6_fill_5 : decode cX6_fill 5 = .ok (.invokestatic 99, 3) := by decide +kernel
theorem dX6_fill_8 : decode cX6_fill 8 = .ok (.ifCond .eq 12, 3) := by decide +kernel
theorem dX6_fill_11 : decode cX6_fill 11 = .ok (.aload_n 0, 1) := by decide +kernel
theorem dX6_fill_12 : decode cX6_fill 12 = .ok (.iconst 4, 1) := by decide +kernel
theorem dX6_fill_13 : decode cX6_fill 13 = .ok (.iload_n 1, 1) := by decide +kernel
theorem dX6_fill_14 : decode cX6_fill 14 = .ok (.invokevirtual 116, 3) := by decide +kernel
theorem dX6_fill_17 : decode cX6_fill 17 = .ok (.goto 5, 3) := by decide +kernel
theorem dX6_fill_20 : decode cX6_fill 20 = .ok (.ldc 103, 2) := by decide +kernel
theorem dX6_fill_22 : decode cX6_fill 22 = .ok (.ireturn, 1) := by decide +kernel
set_option maxRecDepth 20000 in
theorem ggX6_set_X6_in : GoodIn wsX6_set wsX6_in := goodIn_r _ [5] (by decide +kernel) (by decide +kernel)
set_option maxRecDepth 20000 in
theorem gX6_set_X6_in : GoodIn wsX6_set (va_wsS RX6 99 yX6_in wsX6_in) := goodIn_app (goodIn_of _ (by decide +kernel)) ggX6_set_X6_in
set_option maxRecDepth 20000 in
theorem ggX6_set_X6_sets : GoodIn wsX6_set wsX6_sets := goodIn_r _ [9, 10, 11, 12, 13, 4, 14, 15, 16, 17, 18, 19, 20, 21, 22, 23, 24, 25, 26, 27, 28] (by decide +kernel) (by decide +kernel)
set_option maxRecDepth 20000 in
theorem gX6_set_X6_sets : GoodIn wsX6_set (wsV RX6 116 RX6 yX6_sets wsX6_sets) := goodIn_app (goodIn_of _ (by decide +kernel)) ggX6_set_X6_sets
theorem dX6_set_0 : decode cX6_set 0 = .ok (.iload_n 1, 1) := by decide +kernel
theorem dX6_set_1 : decode cX6_set 1 = .ok (.ifCond .eq 8, 3) := by decide +kernel
theorem dX6_set_4 : decode cX6_set 4 = .ok (.iload_n 1, 1) := by decide +kernel
theorem dX6_set_5 : decode cX6_set 5 = .ok (.iconst 1, 1) := by decide +kernel
theorem dX6_set_6 : decode cX6_set 6 = .ok (.if_icmp .ne 14, 3) := by decide +kernel
theorem dX6_set_9 : decode cX6_set 9 = .ok (.iload_n 2, 1) := by decide +kernel
theorem dX6_set_10 : decode cX6_set 10 = .ok (.iconst 1, 1) := by decide +kernel
theorem dX6_set_11 : decode cX6_set 11 = .ok (.sipush 9999, 3) := by decide +kernel
theorem dX6_set_14 : decode cX6_set 14 = .ok (.invokestatic 99, 3) := by decide +kernel
theorem dX6_set_17 : decode cX6_set 17 = .ok (.goto 22, 3) := by decide +kernel
theorem dX6_set_20 : decode cX6_set 20 = .ok (.iload_n 1, 1) := by decide +kernel
theorem dX6_set_21 : decode cX6_set 21 = .ok (.iconst 2, 1) := by decide +kernel
theorem dX6_set_22 : decode cX6_set 22 = .ok (.if_icmp .ne 16, 3) := by decide +kernel
theorem dX6_set_25 : decode cX6_set 25 = .ok (.iload_n 2, 1) := by decide +kernel
theorem dX6_set_26 : decode cX6_set 26 = .ok (.iconst 0, 1) := by decide +kernel
theorem dX6_set_27 : decode cX6_set 27 = .ok (.iconst 2, 1) := by decide +kernel
theorem dX6_set_28 : decode cX6_set 28 = .ok (.invokestatic 99, 3) := by decide +kernel
theorem dX6_set_31 : decode cX6_set 31 = .ok (.ifCond .eq 7, 3) := by decide +kernel
theorem dX6_set_34 : decode cX6_set 34 = .ok (.iconst 1, 1) := by decide +kernel
theorem dX6_set_35 : decode cX6_set 35 = .ok (.goto 4, 3) := by decide +kernel
theorem dX6_set_38 : decode cX6_set 38 = .ok (.iconst 0, 1) := by decide +kernel
theorem dX6_set_39 : decode cX6_set 39 = .ok (.istore_n 3, 1) := by decide +kernel
theorem dX6_set_40 : decode cX6_set 40 = .ok (.iload_n 3, 1) := by decide +kernel
theorem dX6_set_41 : decode cX6_set 41 = .ok (.ifCond .eq 12, 3) := by decide +kernel
theorem dX6_set_44 : decode cX6_set 44 = .ok (.aload_n 0, 1) := by decide +kernel
theorem dX6_set_45 : decode cX6_set 45 = .ok (.iload_n 1, 1) := by decide +kernel
theorem dX6_set_46 : decode cX6_set 46 = .ok (.iload_n 2, 1) := by decide +kernel
theorem dX6_set_47 : decode cX6_set 47 = .ok (.invokevirtual 116, 3) := by decide +kernel
theorem dX6_set_50 : decode cX6_set 50 = .ok (.goto 5, 3) := by decide +kernel
theorem dX6_set_53 : decode cX6_set 53 = .ok (.ldc 103, 2) := by decide +kernel
theorem dX6_set_55 : decode cX6_set 55 = .ok (.ireturn, 1) := by decide +kernel
set_option maxRecDepth 20000 in
theorem ggX6_pass_X6_in : GoodIn wsX6_pass wsX6_in := goodIn_r _ [8] (by decide +kernel) (by decide +kernel)
set_option maxRecDepth 20000 in
theorem gX6_pass_X6_in : GoodIn wsX6_pass (va_wsS RX6 99 yX6_in wsX6_in) := goodIn_app (goodIn_of _ (by decide +kernel)) ggX6_pass_X6_in
set_option maxRecDepth 20000 in
theorem ggX6_pass_X6_changes : GoodIn wsX6_pass wsX6_changes := goodIn_r _ [12, 13, 14, 15, 2, 92, 93, 94, 95, 96, 97, 98, 99, 100, 101, 102] (by decide +kernel) (by decide +kernel)
set_option maxRecDepth 20000 in
theorem gX6_pass_X6_changes : GoodIn wsX6_pass (wsV RX6 105 RX6 yX6_changes wsX6_changes) := goodIn_app (goodIn_of _ (by decide +kernel)) ggX6_pass_X6_changes
set_option maxRecDepth 20000 in
theorem ggX6_pass_X6_passes : GoodIn wsX6_pass wsX6_passes := goodIn_r _ [19, 2, 20, 21, 22, 7, 23, 24, 25, 26, 27, 28, 29, 30, 31, 32, 33, 34, 35, 36, 37, 38, 39, 40, 41, 42, 43, 44, 45, 46, 47, 48, 49, 50, 51, 52, 53, 54, 55, 56, 57, 58, 59, 60, 61, 62, 63, 64, 65, 66, 67, 68, 69, 70, 71, 72, 73, 74, 75, 76, 77, 78, 79, 80, 81, 82, 83, 84, 85, 86, 87, 88, 89, 90, 91, 92, 93, 94, 95, 96, 97, 98, 99, 100, 101, 102] (by decide +kernel) (by decide +kernel)
set_option maxRecDepth 20000 in
theorem gX6_pass_X6_passes : GoodIn wsX6_pass (wsV RX6 120 RX6 yX6_passes wsX6_passes) := goodIn_app (goodIn_of _ (by decide +kernel)) ggX6_pass_X6_passes
theorem dX6_pass_0 : decode cX6_pass 0 = .ok (.iload_n 1, 1) := by decide +kernel
theorem dX6_pass_1 : decode cX6_pass 1 = .ok (.iconst 1, 1) := by decide +kernel
theorem dX6_pass_2 : decode cX6_pass 2 = .ok (.sipush 240, 3) := by decide +kernel
theorem dX6_pass_5 : decode cX6_pass 5 = .ok (.invokestatic 99, 3) := by decide +kernel
theorem dX6_pass_8 : decode cX6_pass 8 = .ok (.ifCond .ne 6, 3) := by decide +kernel
theorem dX6_pass_11 : decode cX6_pass 11 = .ok (.ldc 103, 2) := by decide +kernel
theorem dX6_pass_13 : decode cX6_pass 13 = .ok (.ireturn, 1) := by decide +kernel
theorem dX6_pass_14 : decode cX6_pass 14 = .ok (.aload_n 0, 1) := by decide +kernel
theorem dX6_pass_15 : decode cX6_pass 15 = .ok (.getfield 7, 3) := by decide +kernel
theorem dX6_pass_18 : decode cX6_pass 18 = .ok (.bipush 12, 2) := by decide +kernel
theorem dX6_pass_20 : decode cX6_pass 20 = .ok (.iaload, 1) := by decide +kernel
theorem dX6_pass_21 : decode cX6_pass 21 = .ok (.iload_n 1, 1) := by decide +kernel
theorem dX6_pass_22 : decode cX6_pass 22 = .ok (.iadd, 1) := by decide +kernel
theorem dX6_pass_23 : decode cX6_pass 23 = .ok (.ldc 119, 2) := by decide +kernel
theorem dX6_pass_25 : decode cX6_pass 25 = .ok (.if_icmp .le 6, 3) := by decide +kernel
theorem dX6_pass_28 : decode cX6_pass 28 = .ok (.ldc 104, 2) := by decide +kernel
theorem dX6_pass_30 : decode cX6_pass 30 = .ok (.ireturn, 1) := by decide +kernel
theorem dX6_pass_31 : decode cX6_pass 31 = .ok (.aload_n 0, 1) := by decide +kernel
theorem dX6_pass_32 : decode cX6_pass 32 = .ok (.invokevirtual 105, 3) := by decide +kernel
theorem dX6_pass_35 : decode cX6_pass 35 = .ok (.iconst 0, 1) := by decide +kernel
theorem dX6_pass_36 : decode cX6_pass 36 = .ok (.istore_n 2, 1) := by decide +kernel
theorem dX6_pass_37 : decode cX6_pass 37 = .ok (.iload_n 2, 1) := by decide +kernel
theorem dX6_pass_38 : decode cX6_pass 38 = .ok (.iload_n 1, 1) := by decide +kernel
theorem dX6_pass_39 : decode cX6_pass 39 = .ok (.if_icmp .ge 13, 3) := by decide +kernel
theorem dX6_pass_42 : decode cX6_pass 42 = .ok (.aload_n 0, 1) := by decide +kernel
theorem dX6_pass_43 : decode cX6_pass 43 = .ok (.invokevirtual 120, 3) := by decide +kernel
theorem dX6_pass_46 : decode cX6_pass 46 = .ok (.iinc 2 1, 3) := by decide +kernel
theorem dX6_pass_49 : decode cX6_pass 49 = .ok (.goto (-12), 3) := by decide +kernel
theorem dX6_pass_52 : decode cX6_pass 52 = .ok (.aload_n 0, 1) := by decide +kernel
theorem dX6_pass_53 : decode cX6_pass 53 = .ok (.getfield 7, 3) := by decide +kernel
theorem dX6_pass_56 : decode cX6_pass 56 = .ok (.iconst 4, 1) := by decide +kernel
theorem dX6_pass_57 : decode cX6_pass 57 = .ok (.iaload, 1) := by decide +kernel
theorem dX6_pass_58 : decode cX6_pass 58 = .ok (.ireturn, 1) := by decide +kernel
set_option maxRecDepth 20000 in
theorem ggX6_gateOf_X6_isGate : GoodIn wsX6_gateOf wsX6_isGate := goodIn_r _ [8, 3, 36, 37, 38, 39, 40, 41, 42, 43, 44, 45, 46] (by decide +kernel) (by decide +kernel)
set_option maxRecDepth 20000 in
theorem gX6_gateOf_X6_isGate : GoodIn wsX6_gateOf (wsV RX6 108 RX6 yX6_isGate wsX6_isGate) := goodIn_app (goodIn_of _ (by decide +kernel)) ggX6_gateOf_X6_isGate
set_option maxRecDepth 20000 in
theorem ggX6_gateOf_X6_in : GoodIn wsX6_gateOf wsX6_in := goodIn_r _ [11] (by decide +kernel) (by decide +kernel)
set_option maxRecDepth 20000 in
theorem gX6_gateOf_X6_in : GoodIn wsX6_gateOf (va_wsS RX6 99 yX6_in wsX6_in) := goodIn_app (goodIn_of _ (by decide +kernel)) ggX6_gateOf_X6_in
set_option maxRecDepth 20000 in
theorem ggX6_gateOf_X6_of : GoodIn wsX6_gateOf wsX6_of := goodIn_r _ [15, 3, 36, 37, 38, 39, 40, 41, 42, 43, 44, 45, 46] (by decide +kernel) (by decide +kernel)
set_option maxRecDepth 20000 in
theorem gX6_gateOf_X6_of : GoodIn wsX6_gateOf (wsV RX6 36 RX6 yX6_of wsX6_of) := goodIn_app (goodIn_of _ (by decide +kernel)) ggX6_gateOf_X6_of
set_option maxRecDepth 20000 in
theorem ggX6_gateOf_X6_head : GoodIn wsX6_gateOf wsX6_head := goodIn_r _ [19, 3, 36, 37, 38, 39, 40, 41, 42, 43, 44, 45, 46] (by decide +kernel) (by decide +kernel)
set_option maxRecDepth 20000 in
theorem gX6_gateOf_X6_head : GoodIn wsX6_gateOf (wsV RX6 80 RX6 yX6_head wsX6_head) := goodIn_app (goodIn_of _ (by decide +kernel)) ggX6_gateOf_X6_head
set_option maxRecDepth 20000 in
theorem ggX6_gateOf_X6_rate : GoodIn wsX6_gateOf wsX6_rate := goodIn_r _ [23, 12, 13, 14, 7, 15, 3, 36, 37, 38, 39, 40, 41, 42, 43, 44, 45, 46] (by decide +kernel) (by decide +kernel)
set_option maxRecDepth 20000 in
theorem gX6_gateOf_X6_rate : GoodIn wsX6_gateOf (wsV RX6 83 RX6 yX6_rate wsX6_rate) := goodIn_app (goodIn_of _ (by decide +kernel)) ggX6_gateOf_X6_rate
set_option maxRecDepth 20000 in
theorem ggX6_gateOf_X6_orderOf : GoodIn wsX6_gateOf wsX6_orderOf := goodIn_r _ [27, 3, 28, 29, 30, 7, 31, 2, 36, 37, 38, 39, 40, 41, 42, 43, 44, 45, 46] (by decide +kernel) (by decide +kernel)
set_option maxRecDepth 20000 in
theorem gX6_gateOf_X6_orderOf : GoodIn wsX6_gateOf (wsV RX6 113 RX6 yX6_orderOf wsX6_orderOf) := goodIn_app (goodIn_of _ (by decide +kernel)) ggX6_gateOf_X6_orderOf
set_option maxRecDepth 20000 in
theorem ggX6_gateOf_X6_markOf : GoodIn wsX6_gateOf wsX6_markOf := goodIn_r _ [35, 3, 28, 29, 30, 7, 31, 2, 36, 37, 38, 39, 40, 41, 42, 43, 44, 45, 46] (by decide +kernel) (by decide +kernel)
set_option maxRecDepth 20000 in
theorem gX6_gateOf_X6_markOf : GoodIn wsX6_gateOf (wsV RX6 49 RX6 yX6_markOf wsX6_markOf) := goodIn_app (goodIn_of _ (by decide +kernel)) ggX6_gateOf_X6_markOf
theorem dX6_gateOf_0 : decode cX6_gateOf 0 = .ok (.aload_n 0, 1) := by decide +kernel
theorem dX6_gateOf_1 : decode cX6_gateOf 1 = .ok (.iload_n 1, 1) := by decide +kernel
theorem dX6_gateOf_2 : decode cX6_gateOf 2 = .ok (.invokevirtual 108, 3) := by decide +kernel
theorem dX6_gateOf_5 : decode cX6_gateOf 5 = .ok (.ifCond .eq 13, 3) := by decide +kernel
theorem dX6_gateOf_8 : decode cX6_gateOf 8 = .ok (.iload_n 2, 1) := by decide +kernel
theorem dX6_gateOf_9 : decode cX6_gateOf 9 = .ok (.iconst 0, 1) := by decide +kernel
theorem dX6_gateOf_10 : decode cX6_gateOf 10 = .ok (.bipush 7, 2) := by decide +kernel
theorem dX6_gateOf_12 : decode cX6_gateOf 12 = .ok (.invokestatic 99, 3) := by decide +kernel
theorem dX6_gateOf_15 : decode cX6_gateOf 15 = .ok (.ifCond .ne 6, 3) := by decide +kernel
theorem dX6_gateOf_18 : decode cX6_gateOf 18 = .ok (.ldc 103, 2) := by decide +kernel
theorem dX6_gateOf_20 : decode cX6_gateOf 20 = .ok (.ireturn, 1) := by decide +kernel
theorem dX6_gateOf_21 : decode cX6_gateOf 21 = .ok (.iload_n 2, 1) := by decide +kernel
theorem dX6_gateOf_22 : decode cX6_gateOf 22 = .ok (.tableswitch 128 0 6 #[42, 42, 42, 49, 59, 66, 97], 42) := by decide +kernel
theorem dX6_gateOf_64 : decode cX6_gateOf 64 = .ok (.aload_n 0, 1) := by decide +kernel
theorem dX6_gateOf_65 : decode cX6_gateOf 65 = .ok (.iload_n 1, 1) := by decide +kernel
theorem dX6_gateOf_66 : decode cX6_gateOf 66 = .ok (.iload_n 2, 1) := by decide +kernel
theorem dX6_gateOf_67 : decode cX6_gateOf 67 = .ok (.invokevirtual 36, 3) := by decide +kernel
theorem dX6_gateOf_70 : decode cX6_gateOf 70 = .ok (.ireturn, 1) := by decide +kernel
theorem dX6_gateOf_71 : decode cX6_gateOf 71 = .ok (.aload_n 0, 1) := by decide +kernel
theorem dX6_gateOf_72 : decode cX6_gateOf 72 = .ok (.iload_n 1, 1) := by decide +kernel
theorem dX6_gateOf_73 : decode cX6_gateOf 73 = .ok (.aload_n 0, 1) := by decide +kernel
theorem dX6_gateOf_74 : decode cX6_gateOf 74 = .ok (.invokevirtual 80, 3) := by decide +kernel
theorem dX6_gateOf_77 : decode cX6_gateOf 77 = .ok (.invokevirtual 83, 3) := by decide +kernel
theorem dX6_gateOf_80 : decode cX6_gateOf 80 = .ok (.ireturn, 1) := by decide +kernel
theorem dX6_gateOf_81 : decode cX6_gateOf 81 = .ok (.aload_n 0, 1) := by decide +kernel
theorem dX6_gateOf_82 : decode cX6_gateOf 82 = .ok (.iload_n 1, 1) := by decide +kernel
theorem dX6_gateOf_83 : decode cX6_gateOf 83 = .ok (.iconst 3, 1) := by decide +kernel
theorem dX6_gateOf_84 : decode cX6_gateOf 84 = .ok (.invokevirtual 36, 3) := by decide +kernel
theorem dX6_gateOf_87 : decode cX6_gateOf 87 = .ok (.ireturn, 1) := by decide +kernel
theorem dX6_gateOf_88 : decode cX6_gateOf 88 = .ok (.aload_n 0, 1) := by decide +kernel
theorem dX6_gateOf_89 : decode cX6_gateOf 89 = .ok (.iload_n 1, 1) := by decide +kernel
theorem dX6_gateOf_90 : decode cX6_gateOf 90 = .ok (.invokevirtual 113, 3) := by decide +kernel
theorem dX6_gateOf_93 : decode cX6_gateOf 93 = .ok (.ifCond .ge 8, 3) := by decide +kernel
theorem dX6_gateOf_96 : decode cX6_gateOf 96 = .ok (.ldc 40, 2) := by decide +kernel
theorem dX6_gateOf_98 : decode cX6_gateOf 98 = .ok (.goto 20, 3) := by decide +kernel
theorem dX6_gateOf_101 : decode cX6_gateOf 101 = .ok (.aload_n 0, 1) := by decide +kernel
theorem dX6_gateOf_102 : decode cX6_gateOf 102 = .ok (.getfield 7, 3) := by decide +kernel
theorem dX6_gateOf_105 : decode cX6_gateOf 105 = .ok (.bipush 20, 2) := by decide +kernel
theorem dX6_gateOf_107 : decode cX6_gateOf 107 = .ok (.iconst 2, 1) := by decide +kernel
theorem dX6_gateOf_108 : decode cX6_gateOf 108 = .ok (.aload_n 0, 1) := by decide +kernel
theorem dX6_gateOf_109 : decode cX6_gateOf 109 = .ok (.iload_n 1, 1) := by decide +kernel
theorem dX6_gateOf_110 : decode cX6_gateOf 110 = .ok (.invokevirtual 113, 3) := by decide +kernel
theorem dX6_gateOf_113 : decode cX6_gateOf 113 = .ok (.imul, 1) := by decide +kernel
theorem dX6_gateOf_114 : decode cX6_gateOf 114 = .ok (.iadd, 1) := by decide +kernel
theorem dX6_gateOf_115 : decode cX6_gateOf 115 = .ok (.iconst 1, 1) := by decide +kernel
theorem dX6_gateOf_116 : decode cX6_gateOf 116 = .ok (.iadd, 1) := by decide +kernel
theorem dX6_gateOf_117 : decode cX6_gateOf 117 = .ok (.iaload, 1) := by decide +kernel
theorem dX6_gateOf_118 : decode cX6_gateOf 118 = .ok (.ireturn, 1) := by decide +kernel
theorem dX6_gateOf_119 : decode cX6_gateOf 119 = .ok (.aload_n 0, 1) := by decide +kernel
theorem dX6_gateOf_120 : decode cX6_gateOf 120 = .ok (.iload_n 1, 1) := by decide +kernel
theorem dX6_gateOf_121 : decode cX6_gateOf 121 = .ok (.invokevirtual 49, 3) := by decide +kernel
theorem dX6_gateOf_124 : decode cX6_gateOf 124 = .ok (.ifCond .ge 8, 3) := by decide +kernel
theorem dX6_gateOf_127 : decode cX6_gateOf 127 = .ok (.ldc 40, 2) := by decide +kernel
theorem dX6_gateOf_129 : decode cX6_gateOf 129 = .ok (.goto 20, 3) := by decide +kernel
theorem dX6_gateOf_132 : decode cX6_gateOf 132 = .ok (.aload_n 0, 1) := by decide +kernel
theorem dX6_gateOf_133 : decode cX6_gateOf 133 = .ok (.getfield 7, 3) := by decide +kernel
theorem dX6_gateOf_136 : decode cX6_gateOf 136 = .ok (.bipush 36, 2) := by decide +kernel
theorem dX6_gateOf_138 : decode cX6_gateOf 138 = .ok (.iconst 2, 1) := by decide +kernel
theorem dX6_gateOf_139 : decode cX6_gateOf 139 = .ok (.aload_n 0, 1) := by decide +kernel
theorem dX6_gateOf_140 : decode cX6_gateOf 140 = .ok (.iload_n 1, 1) := by decide +kernel
theorem dX6_gateOf_141 : decode cX6_gateOf 141 = .ok (.invokevirtual 49, 3) := by decide +kernel
theorem dX6_gateOf_144 : decode cX6_gateOf 144 = .ok (.imul, 1) := by decide +kernel
theorem dX6_gateOf_145 : decode cX6_gateOf 145 = .ok (.iadd, 1) := by decide +kernel
theorem dX6_gateOf_146 : decode cX6_gateOf 146 = .ok (.iconst 1, 1) := by decide +kernel
theorem dX6_gateOf_147 : decode cX6_gateOf 147 = .ok (.iadd, 1) := by decide +kernel
theorem dX6_gateOf_148 : decode cX6_gateOf 148 = .ok (.iaload, 1) := by decide +kernel
theorem dX6_gateOf_149 : decode cX6_gateOf 149 = .ok (.ireturn, 1) := by decide +kernel
theorem dX6_gateOf_150 : decode cX6_gateOf 150 = .ok (.aload_n 0, 1) := by decide +kernel
theorem dX6_gateOf_151 : decode cX6_gateOf 151 = .ok (.iload_n 1, 1) := by decide +kernel
theorem dX6_gateOf_152 : decode cX6_gateOf 152 = .ok (.iconst 4, 1) := by decide +kernel
theorem dX6_gateOf_153 : decode cX6_gateOf 153 = .ok (.invokevirtual 36, 3) := by decide +kernel
theorem dX6_gateOf_156 : decode cX6_gateOf 156 = .ok (.ireturn, 1) := by decide +kernel
theorem dX6_craneOf_0 : decode cX6_craneOf 0 = .ok (.iload_n 1, 1) := by decide +kernel
theorem dX6_craneOf_1 : decode cX6_craneOf 1 = .ok (.tableswitch 98 0 6 #[43, 51, 51, 78, 78, 78, 90], 43) := by decide +kernel
theorem dX6_craneOf_44 : decode cX6_craneOf 44 = .ok (.aload_n 0, 1) := by decide +kernel
theorem dX6_craneOf_45 : decode cX6_craneOf 45 = .ok (.getfield 7, 3) := by decide +kernel
theorem dX6_craneOf_48 : decode cX6_craneOf 48 = .ok (.bipush 6, 2) := by decide +kernel
theorem dX6_craneOf_50 : decode cX6_craneOf 50 = .ok (.iaload, 1) := by decide +kernel
theorem dX6_craneOf_51 : decode cX6_craneOf 51 = .ok (.ireturn, 1) := by decide +kernel
theorem dX6_craneOf_52 : decode cX6_craneOf 52 = .ok (.aload_n 0, 1) := by decide +kernel
theorem dX6_craneOf_53 : decode cX6_craneOf 53 = .ok (.getfield 7, 3) := by decide +kernel
theorem dX6_craneOf_56 : decode cX6_craneOf 56 = .ok (.bipush 7, 2) := by decide +kernel
theorem dX6_craneOf_58 : decode cX6_craneOf 58 = .ok (.iaload, 1) := by decide +kernel
theorem dX6_craneOf_59 : decode cX6_craneOf 59 = .ok (.ifCond .ge 8, 3) := by decide +kernel
theorem dX6_craneOf_62 : decode cX6_craneOf 62 = .ok (.ldc 40, 2) := by decide +kernel
theorem dX6_craneOf_64 : decode cX6_craneOf 64 = .ok (.goto 14, 3) := by decide +kernel
theorem dX6_craneOf_67 : decode cX6_craneOf 67 = .ok (.aload_n 0, 1) := by decide +kernel
theorem dX6_craneOf_68 : decode cX6_craneOf 68 = .ok (.getfield 7, 3) := by decide +kernel
theorem dX6_craneOf_71 : decode cX6_craneOf 71 = .ok (.bipush 7, 2) := by decide +kernel
theorem dX6_craneOf_73 : decode cX6_craneOf 73 = .ok (.iload_n 1, 1) := by decide +kernel
theorem dX6_craneOf_74 : decode cX6_craneOf 74 = .ok (.iadd, 1) := by decide +kernel
theorem dX6_craneOf_75 : decode cX6_craneOf 75 = .ok (.iconst 1, 1) := by decide +kernel
theorem dX6_craneOf_76 : decode cX6_craneOf 76 = .ok (.isub, 1) := by decide +kernel
theorem dX6_craneOf_77 : decode cX6_craneOf 77 = .ok (.iaload, 1) := by decide +kernel
theorem dX6_craneOf_78 : decode cX6_craneOf 78 = .ok (.ireturn, 1) := by decide +kernel
theorem dX6_craneOf_79 : decode cX6_craneOf 79 = .ok (.aload_n 0, 1) := by decide +kernel
theorem dX6_craneOf_80 : decode cX6_craneOf 80 = .ok (.getfield 7, 3) := by decide +kernel
theorem dX6_craneOf_83 : decode cX6_craneOf 83 = .ok (.bipush 17, 2) := by decide +kernel
theorem dX6_craneOf_85 : decode cX6_craneOf 85 = .ok (.iload_n 1, 1) := by decide +kernel
theorem dX6_craneOf_86 : decode cX6_craneOf 86 = .ok (.iadd, 1) := by decide +kernel
theorem dX6_craneOf_87 : decode cX6_craneOf 87 = .ok (.iconst 3, 1) := by decide +kernel
theorem dX6_craneOf_88 : decode cX6_craneOf 88 = .ok (.isub, 1) := by decide +kernel
theorem dX6_craneOf_89 : decode cX6_craneOf 89 = .ok (.iaload, 1) := by decide +kernel
theorem dX6_craneOf_90 : decode cX6_craneOf 90 = .ok (.ireturn, 1) := by decide +kernel
theorem dX6_craneOf_91 : decode cX6_craneOf 91 = .ok (.aload_n 0, 1) := by decide +kernel
theorem dX6_craneOf_92 : decode cX6_craneOf 92 = .ok (.getfield 7, 3) := by decide +kernel
theorem dX6_craneOf_95 : decode cX6_craneOf 95 = .ok (.bipush 11, 2) := by decide +kernel
theorem dX6_craneOf_97 : decode cX6_craneOf 97 = .ok (.iaload, 1) := by decide +kernel
theorem dX6_craneOf_98 : decode cX6_craneOf 98 = .ok (.ireturn, 1) := by decide +kernel
theorem dX6_craneOf_99 : decode cX6_craneOf 99 = .ok (.ldc 103, 2) := by decide +kernel
theorem dX6_craneOf_101 : decode cX6_craneOf 101 = .ok (.ireturn, 1) := by decide +kernel
theorem dX6_orderAt_0 : decode cX6_orderAt 0 = .ok (.iload_n 1, 1) := by decide +kernel
theorem dX6_orderAt_1 : decode cX6_orderAt 1 = .ok (.ifCond .ge 8, 3) := by decide +kernel
theorem dX6_orderAt_4 : decode cX6_orderAt 4 = .ok (.ldc 103, 2) := by decide +kernel
theorem dX6_orderAt_6 : decode cX6_orderAt 6 = .ok (.goto 30, 3) := by decide +kernel
theorem dX6_orderAt_9 : decode cX6_orderAt 9 = .ok (.iload_n 1, 1) := by decide +kernel
theorem dX6_orderAt_10 : decode cX6_orderAt 10 = .ok (.aload_n 0, 1) := by decide +kernel
theorem dX6_orderAt_11 : decode cX6_orderAt 11 = .ok (.getfield 7, 3) := by decide +kernel
theorem dX6_orderAt_14 : decode cX6_orderAt 14 = .ok (.bipush 10, 2) := by decide +kernel
theorem dX6_orderAt_16 : decode cX6_orderAt 16 = .ok (.iaload, 1) := by decide +kernel
theorem dX6_orderAt_17 : decode cX6_orderAt 17 = .ok (.if_icmp .ge 17, 3) := by decide +kernel
theorem dX6_orderAt_20 : decode cX6_orderAt 20 = .ok (.aload_n 0, 1) := by decide +kernel
theorem dX6_orderAt_21 : decode cX6_orderAt 21 = .ok (.getfield 7, 3) := by decide +kernel
theorem dX6_orderAt_24 : decode cX6_orderAt 24 = .ok (.bipush 20, 2) := by decide +kernel
theorem dX6_orderAt_26 : decode cX6_orderAt 26 = .ok (.iconst 2, 1) := by decide +kernel
theorem dX6_orderAt_27 : decode cX6_orderAt 27 = .ok (.iload_n 1, 1) := by decide +kernel
theorem dX6_orderAt_28 : decode cX6_orderAt 28 = .ok (.imul, 1) := by decide +kernel
theorem dX6_orderAt_29 : decode cX6_orderAt 29 = .ok (.iadd, 1) := by decide +kernel
theorem dX6_orderAt_30 : decode cX6_orderAt 30 = .ok (.iaload, 1) := by decide +kernel
theorem dX6_orderAt_31 : decode cX6_orderAt 31 = .ok (.goto 5, 3) := by decide +kernel
theorem dX6_orderAt_34 : decode cX6_orderAt 34 = .ok (.ldc 40, 2) := by decide +kernel
theorem dX6_orderAt_36 : decode cX6_orderAt 36 = .ok (.ireturn, 1) := by decide +kernel
theorem dX6_markAt_0 : decode cX6_markAt 0 = .ok (.iload_n 1, 1) := by decide +kernel
theorem dX6_markAt_1 : decode cX6_markAt 1 = .ok (.ifCond .ge 8, 3) := by decide +kernel
theorem dX6_markAt_4 : decode cX6_markAt 4 = .ok (.ldc 103, 2) := by decide +kernel
theorem dX6_markAt_6 : decode cX6_markAt 6 = .ok (.goto 30, 3) := by decide +kernel
theorem dX6_markAt_9 : decode cX6_markAt 9 = .ok (.iload_n 1, 1) := by decide +kernel
theorem dX6_markAt_10 : decode cX6_markAt 10 = .ok (.aload_n 0, 1) := by decide +kernel
theorem dX6_markAt_11 : decode cX6_markAt 11 = .ok (.getfield 7, 3) := by decide +kernel
theorem dX6_markAt_14 : decode cX6_markAt 14 = .ok (.bipush 11, 2) := by decide +kernel
theorem dX6_markAt_16 : decode cX6_markAt 16 = .ok (.iaload, 1) := by decide +kernel
theorem dX6_markAt_17 : decode cX6_markAt 17 = .ok (.if_icmp .ge 17, 3) := by decide +kernel
theorem dX6_markAt_20 : decode cX6_markAt 20 = .ok (.aload_n 0, 1) := by decide +kernel
theorem dX6_markAt_21 : decode cX6_markAt 21 = .ok (.getfield 7, 3) := by decide +kernel
theorem dX6_markAt_24 : decode cX6_markAt 24 = .ok (.bipush 36, 2) := by decide +kernel
theorem dX6_markAt_26 : decode cX6_markAt 26 = .ok (.iconst 2, 1) := by decide +kernel
theorem dX6_markAt_27 : decode cX6_markAt 27 = .ok (.iload_n 1, 1) := by decide +kernel
theorem dX6_markAt_28 : decode cX6_markAt 28 = .ok (.imul, 1) := by decide +kernel
theorem dX6_markAt_29 : decode cX6_markAt 29 = .ok (.iadd, 1) := by decide +kernel
theorem dX6_markAt_30 : decode cX6_markAt 30 = .ok (.iaload, 1) := by decide +kernel
theorem dX6_markAt_31 : decode cX6_markAt 31 = .ok (.goto 5, 3) := by decide +kernel
theorem dX6_markAt_34 : decode cX6_markAt 34 = .ok (.ldc 40, 2) := by decide +kernel
theorem dX6_markAt_36 : decode cX6_markAt 36 = .ok (.ireturn, 1) := by decide +kernel
set_option maxRecDepth 20000 in
theorem ggX6_seen_X6_of : GoodIn wsX6_seen wsX6_of := goodIn_r _ [6, 1, 7, 8, 9, 10, 11, 12, 13, 14, 15, 16, 17] (by decide +kernel) (by decide +kernel)
set_option maxRecDepth 20000 in
theorem gX6_seen_X6_of : GoodIn wsX6_seen (wsV RX6 36 RX6 yX6_of wsX6_of) := goodIn_app (goodIn_of _ (by decide +kernel)) ggX6_seen_X6_of
theorem dX6_seen_0 : decode cX6_seen 0 = .ok (.iload_n 1, 1) := by decide +kernel
theorem dX6_seen_1 : decode cX6_seen 1 = .ok (.ifCond .ne 12, 3) := by decide +kernel
theorem dX6_seen_4 : decode cX6_seen 4 = .ok (.aload_n 0, 1) := by decide +kernel
theorem dX6_seen_5 : decode cX6_seen 5 = .ok (.getfield 7, 3) := by decide +kernel
theorem dX6_seen_8 : decode cX6_seen 8 = .ok (.iconst 4, 1) := by decide +kernel
theorem dX6_seen_9 : decode cX6_seen 9 = .ok (.iaload, 1) := by decide +kernel
theorem dX6_seen_10 : decode cX6_seen 10 = .ok (.goto 72, 3) := by decide +kernel
theorem dX6_seen_13 : decode cX6_seen 13 = .ok (.iload_n 1, 1) := by decide +kernel
theorem dX6_seen_14 : decode cX6_seen 14 = .ok (.iconst 1, 1) := by decide +kernel
theorem dX6_seen_15 : decode cX6_seen 15 = .ok (.if_icmp .ne 13, 3) := by decide +kernel
theorem dX6_seen_18 : decode cX6_seen 18 = .ok (.aload_n 0, 1) := by decide +kernel
theorem dX6_seen_19 : decode cX6_seen 19 = .ok (.getfield 7, 3) := by decide +kernel
theorem dX6_seen_22 : decode cX6_seen 22 = .ok (.bipush 6, 2) := by decide +kernel
theorem dX6_seen_24 : decode cX6_seen 24 = .ok (.iaload, 1) := by decide +kernel
theorem dX6_seen_25 : decode cX6_seen 25 = .ok (.goto 57, 3) := by decide +kernel
theorem dX6_seen_28 : decode cX6_seen 28 = .ok (.iload_n 1, 1) := by decide +kernel
theorem dX6_seen_29 : decode cX6_seen 29 = .ok (.iconst 2, 1) := by decide +kernel
theorem dX6_seen_30 : decode cX6_seen 30 = .ok (.if_icmp .ne 13, 3) := by decide +kernel
theorem dX6_seen_33 : decode cX6_seen 33 = .ok (.aload_n 0, 1) := by decide +kernel
theorem dX6_seen_34 : decode cX6_seen 34 = .ok (.getfield 7, 3) := by decide +kernel
theorem dX6_seen_37 : decode cX6_seen 37 = .ok (.bipush 11, 2) := by decide +kernel
theorem dX6_seen_39 : decode cX6_seen 39 = .ok (.iaload, 1) := by decide +kernel
theorem dX6_seen_40 : decode cX6_seen 40 = .ok (.goto 42, 3) := by decide +kernel
theorem dX6_seen_43 : decode cX6_seen 43 = .ok (.iload_n 1, 1) := by decide +kernel
theorem dX6_seen_44 : decode cX6_seen 44 = .ok (.iconst 3, 1) := by decide +kernel
theorem dX6_seen_45 : decode cX6_seen 45 = .ok (.if_icmp .ne 13, 3) := by decide +kernel
theorem dX6_seen_48 : decode cX6_seen 48 = .ok (.aload_n 0, 1) := by decide +kernel
theorem dX6_seen_49 : decode cX6_seen 49 = .ok (.getfield 7, 3) := by decide +kernel
theorem dX6_seen_52 : decode cX6_seen 52 = .ok (.bipush 10, 2) := by decide +kernel
theorem dX6_seen_54 : decode cX6_seen 54 = .ok (.iaload, 1) := by decide +kernel
theorem dX6_seen_55 : decode cX6_seen 55 = .ok (.goto 27, 3) := by decide +kernel
theorem dX6_seen_58 : decode cX6_seen 58 = .ok (.iload_n 1, 1) := by decide +kernel
theorem dX6_seen_59 : decode cX6_seen 59 = .ok (.iconst 4, 1) := by decide +kernel
theorem dX6_seen_60 : decode cX6_seen 60 = .ok (.if_icmp .ne 13, 3) := by decide +kernel
theorem dX6_seen_63 : decode cX6_seen 63 = .ok (.aload_n 0, 1) := by decide +kernel
theorem dX6_seen_64 : decode cX6_seen 64 = .ok (.getfield 7, 3) := by decide +kernel
theorem dX6_seen_67 : decode cX6_seen 67 = .ok (.bipush 9, 2) := by decide +kernel
theorem dX6_seen_69 : decode cX6_seen 69 = .ok (.iaload, 1) := by decide +kernel
theorem dX6_seen_70 : decode cX6_seen 70 = .ok (.goto 12, 3) := by decide +kernel
theorem dX6_seen_73 : decode cX6_seen 73 = .ok (.aload_n 0, 1) := by decide +kernel
theorem dX6_seen_74 : decode cX6_seen 74 = .ok (.iload_n 1, 1) := by decide +kernel
theorem dX6_seen_75 : decode cX6_seen 75 = .ok (.bipush 10, 2) := by decide +kernel
theorem dX6_seen_77 : decode cX6_seen 77 = .ok (.isub, 1) := by decide +kernel
theorem dX6_seen_78 : decode cX6_seen 78 = .ok (.iconst 2, 1) := by decide +kernel
theorem dX6_seen_79 : decode cX6_seen 79 = .ok (.invokevirtual 36, 3) := by decide +kernel
theorem dX6_seen_82 : decode cX6_seen 82 = .ok (.ireturn, 1) := by decide +kernel
set_option maxRecDepth 20000 in
theorem ggX6_would_X6_in : GoodIn wsX6_would wsX6_in := goodIn_r _ [7] (by decide +kernel) (by decide +kernel)
set_option maxRecDepth 20000 in
theorem gX6_would_X6_in : GoodIn wsX6_would (va_wsS RX6 99 yX6_in wsX6_in) := goodIn_app (goodIn_of _ (by decide +kernel)) ggX6_would_X6_in
set_option maxRecDepth 20000 in
theorem ggX6_would_X6_isGate : GoodIn wsX6_would wsX6_isGate := goodIn_r _ [11, 2, 95, 96, 97, 98, 99, 100, 101, 102, 103, 104, 105] (by decide +kernel) (by decide +kernel)
set_option maxRecDepth 20000 in
theorem gX6_would_X6_isGate : GoodIn wsX6_would (wsV RX6 108 RX6 yX6_isGate wsX6_isGate) := goodIn_app (goodIn_of _ (by decide +kernel)) ggX6_would_X6_isGate
set_option maxRecDepth 20000 in
theorem ggX6_would_X6_copies : GoodIn wsX6_would wsX6_copies := goodIn_r _ [14] (by decide +kernel) (by decide +kernel)
set_option maxRecDepth 20000 in
theorem gX6_would_X6_copies : GoodIn wsX6_would (va_wsS RX6 123 yX6_copies wsX6_copies) := goodIn_app (goodIn_of _ (by decide +kernel)) ggX6_would_X6_copies
set_option maxRecDepth 20000 in
theorem ggX6_would_X6_passes : GoodIn wsX6_would wsX6_passes := goodIn_r _ [18, 2, 19, 20, 21, 6, 22, 23, 24, 25, 26, 27, 28, 29, 30, 31, 32, 33, 34, 35, 36, 37, 38, 39, 40, 41, 42, 43, 44, 45, 46, 47, 48, 49, 50, 51, 52, 53, 54, 55, 56, 57, 58, 59, 60, 61, 62, 63, 64, 65, 66, 67, 68, 69, 70, 71, 72, 73, 74, 75, 76, 77, 78, 79, 80, 81, 82, 83, 84, 85, 86, 87, 88, 89, 90, 95, 96, 97, 98, 99, 100, 101, 102, 103, 104, 105] (by decide +kernel) (by decide +kernel)
set_option maxRecDepth 20000 in
theorem gX6_would_X6_passes : GoodIn wsX6_would (wsV RX6 120 RX6 yX6_passes wsX6_passes) := goodIn_app (goodIn_of _ (by decide +kernel)) ggX6_would_X6_passes
set_option maxRecDepth 20000 in
theorem ggX6_would_X6_seen : GoodIn wsX6_would wsX6_seen := goodIn_r _ [94, 2, 52, 53, 54, 6, 55, 95, 96, 97, 98, 99, 100, 101, 102, 103, 104, 105] (by decide +kernel) (by decide +kernel)
set_option maxRecDepth 20000 in
theorem gX6_would_X6_seen : GoodIn wsX6_would (wsV RX6 127 RX6 yX6_seen wsX6_seen) := goodIn_app (goodIn_of _ (by decide +kernel)) ggX6_would_X6_seen
theorem dX6_would_0 : decode cX6_would 0 = .ok (.iload_n 1, 1) := by decide +kernel
theorem dX6_would_1 : decode cX6_would 1 = .ok (.iconst 0, 1) := by decide +kernel
theorem dX6_would_2 : decode cX6_would 2 = .ok (.sipush 500, 3) := by decide +kernel
theorem dX6_would_5 : decode cX6_would 5 = .ok (.invokestatic 99, 3) := by decide +kernel
theorem dX6_would_8 : decode cX6_would 8 = .ok (.ifCond .eq 23, 3) := by decide +kernel
theorem dX6_would_11 : decode cX6_would 11 = .ok (.iload_n 2, 1) := by decide +kernel
theorem dX6_would_12 : decode cX6_would 12 = .ok (.iconst 0, 1) := by decide +kernel
theorem dX6_would_13 : decode cX6_would 13 = .ok (.iconst 4, 1) := by decide +kernel
theorem dX6_would_14 : decode cX6_would 14 = .ok (.invokestatic 99, 3) := by decide +kernel
theorem dX6_would_17 : decode cX6_would 17 = .ok (.ifCond .ne 17, 3) := by decide +kernel
theorem dX6_would_20 : decode cX6_would 20 = .ok (.aload_n 0, 1) := by decide +kernel
theorem dX6_would_21 : decode cX6_would 21 = .ok (.iload_n 2, 1) := by decide +kernel
theorem dX6_would_22 : decode cX6_would 22 = .ok (.bipush 10, 2) := by decide +kernel
theorem dX6_would_24 : decode cX6_would 24 = .ok (.isub, 1) := by decide +kernel
theorem dX6_would_25 : decode cX6_would 25 = .ok (.invokevirtual 108, 3) := by decide +kernel
theorem dX6_would_28 : decode cX6_would 28 = .ok (.ifCond .ne 6, 3) := by decide +kernel
theorem dX6_would_31 : decode cX6_would 31 = .ok (.ldc 103, 2) := by decide +kernel
theorem dX6_would_33 : decode cX6_would 33 = .ok (.ireturn, 1) := by decide +kernel
theorem dX6_would_34 : decode cX6_would 34 = .ok (.aload_n 0, 1) := by decide +kernel
theorem dX6_would_35 : decode cX6_would 35 = .ok (.getfield 7, 3) := by decide +kernel
theorem dX6_would_38 : decode cX6_would 38 = .ok (.aload_n 0, 1) := by decide +kernel
theorem dX6_would_39 : decode cX6_would 39 = .ok (.getfield 19, 3) := by decide +kernel
theorem dX6_would_42 : decode cX6_would 42 = .ok (.invokestatic 123, 3) := by decide +kernel
theorem dX6_would_45 : decode cX6_would 45 = .ok (.iconst 0, 1) := by decide +kernel
theorem dX6_would_46 : decode cX6_would 46 = .ok (.istore_n 3, 1) := by decide +kernel
theorem dX6_would_47 : decode cX6_would 47 = .ok (.iload_n 3, 1) := by decide +kernel
theorem dX6_would_48 : decode cX6_would 48 = .ok (.iload_n 1, 1) := by decide +kernel
theorem dX6_would_49 : decode cX6_would 49 = .ok (.if_icmp .ge 13, 3) := by decide +kernel
theorem dX6_would_52 : decode cX6_would 52 = .ok (.aload_n 0, 1) := by decide +kernel
theorem dX6_would_53 : decode cX6_would 53 = .ok (.invokevirtual 120, 3) := by decide +kernel
theorem dX6_would_56 : decode cX6_would 56 = .ok (.iinc 3 1, 3) := by decide +kernel
theorem dX6_would_59 : decode cX6_would 59 = .ok (.goto (-12), 3) := by decide +kernel
theorem dX6_would_62 : decode cX6_would 62 = .ok (.aload_n 0, 1) := by decide +kernel
theorem dX6_would_63 : decode cX6_would 63 = .ok (.iload_n 2, 1) := by decide +kernel
theorem dX6_would_64 : decode cX6_would 64 = .ok (.invokevirtual 127, 3) := by decide +kernel
theorem dX6_would_67 : decode cX6_would 67 = .ok (.istore_n 3, 1) := by decide +kernel
theorem dX6_would_68 : decode cX6_would 68 = .ok (.aload_n 0, 1) := by decide +kernel
theorem dX6_would_69 : decode cX6_would 69 = .ok (.getfield 19, 3) := by decide +kernel
theorem dX6_would_72 : decode cX6_would 72 = .ok (.aload_n 0, 1) := by decide +kernel
theorem dX6_would_73 : decode cX6_would 73 = .ok (.getfield 7, 3) := by decide +kernel
theorem dX6_would_76 : decode cX6_would 76 = .ok (.invokestatic 123, 3) := by decide +kernel
theorem dX6_would_79 : decode cX6_would 79 = .ok (.iload_n 3, 1) := by decide +kernel
theorem dX6_would_80 : decode cX6_would 80 = .ok (.ireturn, 1) := by decide +kernel
theorem dX6_isSo_0 : decode cX6_isSo 0 = .ok (.iload_n 2, 1) := by decide +kernel
theorem dX6_isSo_1 : decode cX6_isSo 1 = .ok (.ifCond .ne 21, 3) := by decide +kernel
theorem dX6_isSo_4 : decode cX6_isSo 4 = .ok (.aload_n 0, 1) := by decide +kernel
theorem dX6_isSo_5 : decode cX6_isSo 5 = .ok (.getfield 7, 3) := by decide +kernel
theorem dX6_isSo_8 : decode cX6_isSo 8 = .ok (.iconst 4, 1) := by decide +kernel
theorem dX6_isSo_9 : decode cX6_isSo 9 = .ok (.iaload, 1) := by decide +kernel
theorem dX6_isSo_10 : decode cX6_isSo 10 = .ok (.iload_n 1, 1) := by decide +kernel
theorem dX6_isSo_11 : decode cX6_isSo 11 = .ok (.if_icmp .lt 7, 3) := by decide +kernel
theorem dX6_isSo_14 : decode cX6_isSo 14 = .ok (.iconst 1, 1) := by decide +kernel
theorem dX6_isSo_15 : decode cX6_isSo 15 = .ok (.goto 22, 3) := by decide +kernel
theorem dX6_isSo_18 : decode cX6_isSo 18 = .ok (.iconst 0, 1) := by decide +kernel
theorem dX6_isSo_19 : decode cX6_isSo 19 = .ok (.goto 18, 3) := by decide +kernel
theorem dX6_isSo_22 : decode cX6_isSo 22 = .ok (.aload_n 0, 1) := by decide +kernel
theorem dX6_isSo_23 : decode cX6_isSo 23 = .ok (.getfield 7, 3) := by decide +kernel
theorem dX6_isSo_26 : decode cX6_isSo 26 = .ok (.iconst 4, 1) := by decide +kernel
theorem dX6_isSo_27 : decode cX6_isSo 27 = .ok (.iaload, 1) := by decide +kernel
theorem dX6_isSo_28 : decode cX6_isSo 28 = .ok (.iload_n 1, 1) := by decide +kernel
theorem dX6_isSo_29 : decode cX6_isSo 29 = .ok (.if_icmp .gt 7, 3) := by decide +kernel
theorem dX6_isSo_32 : decode cX6_isSo 32 = .ok (.iconst 1, 1) := by decide +kernel
theorem dX6_isSo_33 : decode cX6_isSo 33 = .ok (.goto 4, 3) := by decide +kernel
theorem dX6_isSo_36 : decode cX6_isSo 36 = .ok (.iconst 0, 1) := by decide +kernel
theorem dX6_isSo_37 : decode cX6_isSo 37 = .ok (.ireturn, 1) := by decide +kernel
set_option maxRecDepth 20000 in
theorem ggX6_minutesUntil_X6_in : GoodIn wsX6_minutesUntil wsX6_in := goodIn_r _ [8] (by decide +kernel) (by decide +kernel)
set_option maxRecDepth 20000 in
theorem gX6_minutesUntil_X6_in : GoodIn wsX6_minutesUntil (va_wsS RX6 99 yX6_in wsX6_in) := goodIn_app (goodIn_of _ (by decide +kernel)) ggX6_minutesUntil_X6_in
set_option maxRecDepth 20000 in
theorem ggX6_minutesUntil_X6_copies : GoodIn wsX6_minutesUntil wsX6_copies := goodIn_r _ [11] (by decide +kernel) (by decide +kernel)
set_option maxRecDepth 20000 in
theorem gX6_minutesUntil_X6_copies : GoodIn wsX6_minutesUntil (va_wsS RX6 123 yX6_copies wsX6_copies) := goodIn_app (goodIn_of _ (by decide +kernel)) ggX6_minutesUntil_X6_copies
set_option maxRecDepth 20000 in
theorem ggX6_minutesUntil_X6_isSo : GoodIn wsX6_minutesUntil wsX6_isSo := goodIn_r _ [15, 2, 91, 92, 93, 94, 95, 96, 97, 98, 99, 100, 101] (by decide +kernel) (by decide +kernel)
set_option maxRecDepth 20000 in
theorem gX6_minutesUntil_X6_isSo : GoodIn wsX6_minutesUntil (wsV RX6 130 RX6 yX6_isSo wsX6_isSo) := goodIn_app (goodIn_of _ (by decide +kernel)) ggX6_minutesUntil_X6_isSo
set_option maxRecDepth 20000 in
theorem ggX6_minutesUntil_X6_passes : GoodIn wsX6_minutesUntil wsX6_passes := goodIn_r _ [19, 2, 20, 21, 22, 7, 23, 24, 25, 26, 27, 28, 29, 30, 31, 32, 33, 34, 35, 4, 36, 37, 38, 39, 40, 41, 42, 43, 44, 45, 46, 47, 48, 49, 50, 51, 52, 53, 54, 55, 56, 57, 58, 59, 60, 61, 62, 63, 64, 65, 66, 67, 68, 69, 70, 71, 72, 73, 74, 75, 76, 77, 78, 79, 80, 81, 82, 83, 84, 85, 86, 87, 88, 89, 90, 91, 92, 93, 94, 95, 96, 97, 98, 99, 100, 101] (by decide +kernel) (by decide +kernel)
set_option maxRecDepth 20000 in
theorem gX6_minutesUntil_X6_passes : GoodIn wsX6_minutesUntil (wsV RX6 120 RX6 yX6_passes wsX6_passes) := goodIn_app (goodIn_of _ (by decide +kernel)) ggX6_minutesUntil_X6_passes
theorem dX6_minutesUntil_0 : decode cX6_minutesUntil 0 = .ok (.iload_n 1, 1) := by decide +kernel
theorem dX6_minutesUntil_1 : decode cX6_minutesUntil 1 = .ok (.iconst 0, 1) := by decide +kernel
theorem dX6_minutesUntil_2 : decode cX6_minutesUntil 2 = .ok (.sipush 9999, 3) := by decide +kernel
theorem dX6_minutesUntil_5 : decode cX6_minutesUntil 5 = .ok (.invokestatic 99, 3) := by decide +kernel
theorem dX6_minutesUntil_8 : decode cX6_minutesUntil 8 = .ok (.ifCond .eq 12, 3) := by decide +kernel
theorem dX6_minutesUntil_11 : decode cX6_minutesUntil 11 = .ok (.iload_n 2, 1) := by decide +kernel
theorem dX6_minutesUntil_12 : decode cX6_minutesUntil 12 = .ok (.iconst 0, 1) := by decide +kernel
theorem dX6_minutesUntil_13 : decode cX6_minutesUntil 13 = .ok (.iconst 1, 1) := by decide +kernel
theorem dX6_minutesUntil_14 : decode cX6_minutesUntil 14 = .ok (.invokestatic 99, 3) := by decide +kernel
theorem dX6_minutesUntil_17 : decode cX6_minutesUntil 17 = .ok (.ifCond .ne 6, 3) := by decide +kernel
theorem dX6_minutesUntil_20 : decode cX6_minutesUntil 20 = .ok (.ldc 103, 2) := by decide +kernel
theorem dX6_minutesUntil_22 : decode cX6_minutesUntil 22 = .ok (.ireturn, 1) := by decide +kernel
theorem dX6_minutesUntil_23 : decode cX6_minutesUntil 23 = .ok (.aload_n 0, 1) := by decide +kernel
theorem dX6_minutesUntil_24 : decode cX6_minutesUntil 24 = .ok (.getfield 7, 3) := by decide +kernel
theorem dX6_minutesUntil_27 : decode cX6_minutesUntil 27 = .ok (.aload_n 0, 1) := by decide +kernel
theorem dX6_minutesUntil_28 : decode cX6_minutesUntil 28 = .ok (.getfield 19, 3) := by decide +kernel
theorem dX6_minutesUntil_31 : decode cX6_minutesUntil 31 = .ok (.invokestatic 123, 3) := by decide +kernel
theorem dX6_minutesUntil_34 : decode cX6_minutesUntil 34 = .ok (.iconst 0, 1) := by decide +kernel
theorem dX6_minutesUntil_35 : decode cX6_minutesUntil 35 = .ok (.istore_n 3, 1) := by decide +kernel
theorem dX6_minutesUntil_36 : decode cX6_minutesUntil 36 = .ok (.iload_n 3, 1) := by decide +kernel
theorem dX6_minutesUntil_37 : decode cX6_minutesUntil 37 = .ok (.sipush 1000, 3) := by decide +kernel
theorem dX6_minutesUntil_40 : decode cX6_minutesUntil 40 = .ok (.if_icmp .gt 22, 3) := by decide +kernel
theorem dX6_minutesUntil_43 : decode cX6_minutesUntil 43 = .ok (.aload_n 0, 1) := by decide +kernel
theorem dX6_minutesUntil_44 : decode cX6_minutesUntil 44 = .ok (.iload_n 1, 1) := by decide +kernel
theorem dX6_minutesUntil_45 : decode cX6_minutesUntil 45 = .ok (.iload_n 2, 1) := by decide +kernel
theorem dX6_minutesUntil_46 : decode cX6_minutesUntil 46 = .ok (.invokevirtual 130, 3) := by decide +kernel
theorem dX6_minutesUntil_49 : decode cX6_minutesUntil 49 = .ok (.ifCond .ne 13, 3) := by decide +kernel
theorem dX6_minutesUntil_52 : decode cX6_minutesUntil 52 = .ok (.aload_n 0, 1) := by decide +kernel
theorem dX6_minutesUntil_53 : decode cX6_minutesUntil 53 = .ok (.invokevirtual 120, 3) := by decide +kernel
theorem dX6_minutesUntil_56 : decode cX6_minutesUntil 56 = .ok (.iinc 3 1, 3) := by decide +kernel
theorem dX6_minutesUntil_59 : decode cX6_minutesUntil 59 = .ok (.goto (-23), 3) := by decide +kernel
theorem dX6_minutesUntil_62 : decode cX6_minutesUntil 62 = .ok (.aload_n 0, 1) := by decide +kernel
theorem dX6_minutesUntil_63 : decode cX6_minutesUntil 63 = .ok (.getfield 19, 3) := by decide +kernel
theorem dX6_minutesUntil_66 : decode cX6_minutesUntil 66 = .ok (.aload_n 0, 1) := by decide +kernel
theorem dX6_minutesUntil_67 : decode cX6_minutesUntil 67 = .ok (.getfield 7, 3) := by decide +kernel
theorem dX6_minutesUntil_70 : decode cX6_minutesUntil 70 = .ok (.invokestatic 123, 3) := by decide +kernel
theorem dX6_minutesUntil_73 : decode cX6_minutesUntil 73 = .ok (.iload_n 3, 1) := by decide +kernel
theorem dX6_minutesUntil_74 : decode cX6_minutesUntil 74 = .ok (.sipush 1000, 3) := by decide +kernel
theorem dX6_minutesUntil_77 : decode cX6_minutesUntil 77 = .ok (.if_icmp .le 8, 3) := by decide +kernel
theorem dX6_minutesUntil_80 : decode cX6_minutesUntil 80 = .ok (.ldc 40, 2) := by decide +kernel
theorem dX6_minutesUntil_82 : decode cX6_minutesUntil 82 = .ok (.goto 4, 3) := by decide +kernel
theorem dX6_minutesUntil_85 : decode cX6_minutesUntil 85 = .ok (.iload_n 3, 1) := by decide +kernel
theorem dX6_minutesUntil_86 : decode cX6_minutesUntil 86 = .ok (.ireturn, 1) := by decide +kernel
theorem dX6_isAtRest_0 : decode cX6_isAtRest 0 = .ok (.aload_n 0, 1) := by decide +kernel
theorem dX6_isAtRest_1 : decode cX6_isAtRest 1 = .ok (.getfield 7, 3) := by decide +kernel
theorem dX6_isAtRest_4 : decode cX6_isAtRest 4 = .ok (.bipush 7, 2) := by decide +kernel
theorem dX6_isAtRest_6 : decode cX6_isAtRest 6 = .ok (.iaload, 1) := by decide +kernel
theorem dX6_isAtRest_7 : decode cX6_isAtRest 7 = .ok (.ifCond .ge 37, 3) := by decide +kernel
theorem dX6_isAtRest_10 : decode cX6_isAtRest 10 = .ok (.aload_n 0, 1) := by decide +kernel
theorem dX6_isAtRest_11 : decode cX6_isAtRest 11 = .ok (.getfield 7, 3) := by decide +kernel
theorem dX6_isAtRest_14 : decode cX6_isAtRest 14 = .ok (.bipush 10, 2) := by decide +kernel
theorem dX6_isAtRest_16 : decode cX6_isAtRest 16 = .ok (.iaload, 1) := by decide +kernel
theorem dX6_isAtRest_17 : decode cX6_isAtRest 17 = .ok (.ifCond .ne 27, 3) := by decide +kernel
theorem dX6_isAtRest_20 : decode cX6_isAtRest 20 = .ok (.aload_n 0, 1) := by decide +kernel
theorem dX6_isAtRest_21 : decode cX6_isAtRest 21 = .ok (.getfield 7, 3) := by decide +kernel
theorem dX6_isAtRest_24 : decode cX6_isAtRest 24 = .ok (.bipush 11, 2) := by decide +kernel
theorem dX6_isAtRest_26 : decode cX6_isAtRest 26 = .ok (.iaload, 1) := by decide +kernel
theorem dX6_isAtRest_27 : decode cX6_isAtRest 27 = .ok (.ifCond .ne 17, 3) := by decide +kernel
theorem dX6_isAtRest_30 : decode cX6_isAtRest 30 = .ok (.aload_n 0, 1) := by decide +kernel
theorem dX6_isAtRest_31 : decode cX6_isAtRest 31 = .ok (.getfield 7, 3) := by decide +kernel
theorem dX6_isAtRest_34 : decode cX6_isAtRest 34 = .ok (.bipush 9, 2) := by decide +kernel
theorem dX6_isAtRest_36 : decode cX6_isAtRest 36 = .ok (.iaload, 1) := by decide +kernel
theorem dX6_isAtRest_37 : decode cX6_isAtRest 37 = .ok (.ifCond .ne 7, 3) := by decide +kernel
theorem dX6_isAtRest_40 : decode cX6_isAtRest 40 = .ok (.iconst 1, 1) := by decide +kernel
theorem dX6_isAtRest_41 : decode cX6_isAtRest 41 = .ok (.goto 4, 3) := by decide +kernel
theorem dX6_isAtRest_44 : decode cX6_isAtRest 44 = .ok (.iconst 0, 1) := by decide +kernel
theorem dX6_isAtRest_45 : decode cX6_isAtRest 45 = .ok (.ireturn, 1) := by decide +kernel
set_option maxRecDepth 20000 in
theorem ggX6_restIn_X6_copies : GoodIn wsX6_restIn wsX6_copies := goodIn_r _ [7] (by decide +kernel) (by decide +kernel)
set_option maxRecDepth 20000 in
theorem gX6_restIn_X6_copies : GoodIn wsX6_restIn (va_wsS RX6 123 yX6_copies wsX6_copies) := goodIn_app (goodIn_of _ (by decide +kernel)) ggX6_restIn_X6_copies
set_option maxRecDepth 20000 in
theorem ggX6_restIn_X6_isAtRest : GoodIn wsX6_restIn wsX6_isAtRest := goodIn_r _ [11, 1, 87, 88, 89, 90, 91, 92, 93, 94, 95, 96, 97] (by decide +kernel) (by decide +kernel)
set_option maxRecDepth 20000 in
theorem gX6_restIn_X6_isAtRest : GoodIn wsX6_restIn (wsV RX6 134 RX6 yX6_isAtRest wsX6_isAtRest) := goodIn_app (goodIn_of _ (by decide +kernel)) ggX6_restIn_X6_isAtRest
set_option maxRecDepth 20000 in
theorem ggX6_restIn_X6_passes : GoodIn wsX6_restIn wsX6_passes := goodIn_r _ [15, 1, 16, 17, 18, 6, 19, 20, 21, 22, 23, 24, 25, 26, 27, 28, 29, 30, 31, 3, 32, 33, 34, 35, 36, 37, 38, 39, 40, 41, 42, 43, 44, 45, 46, 47, 48, 49, 50, 51, 52, 53, 54, 55, 56, 57, 58, 59, 60, 61, 62, 63, 64, 65, 66, 67, 68, 69, 70, 71, 72, 73, 74, 75, 76, 77, 78, 79, 80, 81, 82, 83, 84, 85, 86, 87, 88, 89, 90, 91, 92, 93, 94, 95, 96, 97] (by decide +kernel) (by decide +kernel)
set_option maxRecDepth 20000 in
theorem gX6_restIn_X6_passes : GoodIn wsX6_restIn (wsV RX6 120 RX6 yX6_passes wsX6_passes) := goodIn_app (goodIn_of _ (by decide +kernel)) ggX6_restIn_X6_passes
theorem dX6_restIn_0 : decode cX6_restIn 0 = .ok (.aload_n 0, 1) := by decide +kernel
theorem dX6_restIn_1 : decode cX6_restIn 1 = .ok (.getfield 7, 3) := by decide +kernel
theorem dX6_restIn_4 : decode cX6_restIn 4 = .ok (.aload_n 0, 1) := by decide +kernel
theorem dX6_restIn_5 : decode cX6_restIn 5 = .ok (.getfield 19, 3) := by decide +kernel
theorem dX6_restIn_8 : decode cX6_restIn 8 = .ok (.invokestatic 123, 3) := by decide +kernel
theorem dX6_restIn_11 : decode cX6_restIn 11 = .ok (.aload_n 0, 1) := by decide +kernel
theorem dX6_restIn_12 : decode cX6_restIn 12 = .ok (.getfield 7, 3) := by decide +kernel
theorem dX6_restIn_15 : decode cX6_restIn 15 = .ok (.iconst 2, 1) := by decide +kernel
theorem dX6_restIn_16 : decode cX6_restIn 16 = .ok (.iload_n 1, 1) := by decide +kernel
theorem dX6_restIn_17 : decode cX6_restIn 17 = .ok (.iastore, 1) := by decide +kernel
theorem dX6_restIn_18 : decode cX6_restIn 18 = .ok (.iconst 0, 1) := by decide +kernel
theorem dX6_restIn_19 : decode cX6_restIn 19 = .ok (.istore_n 2, 1) := by decide +kernel
theorem dX6_restIn_20 : decode cX6_restIn 20 = .ok (.iload_n 2, 1) := by decide +kernel
theorem dX6_restIn_21 : decode cX6_restIn 21 = .ok (.sipush 1000, 3) := by decide +kernel
theorem dX6_restIn_24 : decode cX6_restIn 24 = .ok (.if_icmp .gt 20, 3) := by decide +kernel
theorem dX6_restIn_27 : decode cX6_restIn 27 = .ok (.aload_n 0, 1) := by decide +kernel
theorem dX6_restIn_28 : decode cX6_restIn 28 = .ok (.invokevirtual 134, 3) := by decide +kernel
theorem dX6_restIn_31 : decode cX6_restIn 31 = .ok (.ifCond .ne 13, 3) := by decide +kernel
theorem dX6_restIn_34 : decode cX6_restIn 34 = .ok (.aload_n 0, 1) := by decide +kernel
theorem dX6_restIn_35 : decode cX6_restIn 35 = .ok (.invokevirtual 120, 3) := by decide +kernel
theorem dX6_restIn_38 : decode cX6_restIn 38 = .ok (.iinc 2 1, 3) := by decide +kernel
theorem dX6_restIn_41 : decode cX6_restIn 41 = .ok (.goto (-21), 3) := by decide +kernel
theorem dX6_restIn_44 : decode cX6_restIn 44 = .ok (.aload_n 0, 1) := by decide +kernel
theorem dX6_restIn_45 : decode cX6_restIn 45 = .ok (.getfield 19, 3) := by decide +kernel
theorem dX6_restIn_48 : decode cX6_restIn 48 = .ok (.aload_n 0, 1) := by decide +kernel
theorem dX6_restIn_49 : decode cX6_restIn 49 = .ok (.getfield 7, 3) := by decide +kernel
theorem dX6_restIn_52 : decode cX6_restIn 52 = .ok (.invokestatic 123, 3) := by decide +kernel
theorem dX6_restIn_55 : decode cX6_restIn 55 = .ok (.iload_n 2, 1) := by decide +kernel
theorem dX6_restIn_56 : decode cX6_restIn 56 = .ok (.sipush 1000, 3) := by decide +kernel
theorem dX6_restIn_59 : decode cX6_restIn 59 = .ok (.if_icmp .le 8, 3) := by decide +kernel
theorem dX6_restIn_62 : decode cX6_restIn 62 = .ok (.ldc 40, 2) := by decide +kernel
theorem dX6_restIn_64 : decode cX6_restIn 64 = .ok (.goto 4, 3) := by decide +kernel
theorem dX6_restIn_67 : decode cX6_restIn 67 = .ok (.iload_n 2, 1) := by decide +kernel
theorem dX6_restIn_68 : decode cX6_restIn 68 = .ok (.ireturn, 1) := by decide +kernel
set_option maxRecDepth 20000 in
theorem ggX6_minutesToRest_X6_restIn : GoodIn wsX6_minutesToRest wsX6_restIn := goodIn_r _ [6, 1, 7, 8, 9, 10, 5, 11, 12, 13, 14, 15, 16, 17, 18, 19, 20, 21, 22, 23, 24, 25, 26, 27, 28, 29, 30, 31, 32, 33, 34, 35, 36, 37, 38, 39, 40, 41, 42, 43, 44, 45, 46, 47, 48, 49, 50, 51, 52, 53, 54, 55, 56, 57, 58, 59, 60, 61, 62, 63, 64, 65, 66, 67, 68, 69, 70, 71, 72, 73, 74, 75, 76, 77, 78, 79, 80, 81, 82, 83, 84, 85, 86, 87, 88, 89, 90, 91, 92, 93, 94, 95, 96, 97, 98, 99, 100, 101] (by decide +kernel) (by decide +kernel)
set_option maxRecDepth 20000 in
theorem gX6_minutesToRest_X6_restIn : GoodIn wsX6_minutesToRest (wsV RX6 137 RX6 yX6_restIn wsX6_restIn) := goodIn_app (goodIn_of _ (by decide +kernel)) ggX6_minutesToRest_X6_restIn
theorem dX6_minutesToRest_0 : decode cX6_minutesToRest 0 = .ok (.aload_n 0, 1) := by decide +kernel
theorem dX6_minutesToRest_1 : decode cX6_minutesToRest 1 = .ok (.aload_n 0, 1) := by decide +kernel
theorem dX6_minutesToRest_2 : decode cX6_minutesToRest 2 = .ok (.getfield 7, 3) := by decide +kernel
theorem dX6_minutesToRest_5 : decode cX6_minutesToRest 5 = .ok (.iconst 2, 1) := by decide +kernel
theorem dX6_minutesToRest_6 : decode cX6_minutesToRest 6 = .ok (.iaload, 1) := by decide +kernel
theorem dX6_minutesToRest_7 : decode cX6_minutesToRest 7 = .ok (.invokevirtual 137, 3) := by decide +kernel
theorem dX6_minutesToRest_10 : decode cX6_minutesToRest 10 = .ok (.ireturn, 1) := by decide +kernel
set_option maxRecDepth 20000 in
theorem ggX6_bestRule_X6_in : GoodIn wsX6_bestRule wsX6_in := goodIn_r _ [6] (by decide +kernel) (by decide +kernel)
set_option maxRecDepth 20000 in
theorem gX6_bestRule_X6_in : GoodIn wsX6_bestRule (va_wsS RX6 99 yX6_in wsX6_in) := goodIn_app (goodIn_of _ (by decide +kernel)) ggX6_bestRule_X6_in
set_option maxRecDepth 20000 in
theorem ggX6_bestRule_X6_restIn : GoodIn wsX6_bestRule wsX6_restIn := goodIn_r _ [10, 11, 12, 2, 13, 14, 5, 15, 16, 17, 18, 19, 20, 21, 22, 23, 24, 25, 26, 27, 28, 29, 30, 31, 32, 33, 34, 35, 36, 37, 38, 39, 40, 41, 42, 43, 44, 45, 46, 47, 48, 49, 50, 51, 52, 53, 54, 55, 56, 57, 58, 59, 60, 61, 62, 63, 64, 65, 66, 67, 68, 69, 70, 71, 72, 73, 74, 75, 76, 77, 78, 79, 80, 81, 82, 83, 84, 85, 86, 87, 88, 89, 90, 91, 92, 93, 94, 95, 96, 97, 98, 99, 100, 101, 102, 103, 104, 105] (by decide +kernel) (by decide +kernel)
set_option maxRecDepth 20000 in
theorem gX6_bestRule_X6_restIn : GoodIn wsX6_bestRule (wsV RX6 137 RX6 yX6_restIn wsX6_restIn) := goodIn_app (goodIn_of _ (by decide +kernel)) ggX6_bestRule_X6_restIn
theorem dX6_bestRule_0 : decode cX6_bestRule 0 = .ok (.iload_n 1, 1) := by decide +kernel
theorem dX6_bestRule_1 : decode cX6_bestRule 1 = .ok (.iconst 0, 1) := by decide +kernel
theorem dX6_bestRule_2 : decode cX6_bestRule 2 = .ok (.iconst 1, 1) := by decide +kernel
theorem dX6_bestRule_3 : decode cX6_bestRule 3 = .ok (.invokestatic 99, 3) := by decide +kernel
theorem dX6_bestRule_6 : decode cX6_bestRule 6 = .ok (.ifCond .ne 6, 3) := by decide +kernel
theorem dX6_bestRule_9 : decode cX6_bestRule 9 = .ok (.ldc 103, 2) := by decide +kernel
theorem dX6_bestRule_11 : decode cX6_bestRule 11 = .ok (.ireturn, 1) := by decide +kernel
theorem dX6_bestRule_12 : decode cX6_bestRule 12 = .ok (.ldc 40, 2) := by decide +kernel
theorem dX6_bestRule_14 : decode cX6_bestRule 14 = .ok (.istore_n 2, 1) := by decide +kernel
theorem dX6_bestRule_15 : decode cX6_bestRule 15 = .ok (.ldc 40, 2) := by decide +kernel
theorem dX6_bestRule_17 : decode cX6_bestRule 17 = .ok (.istore_n 3, 1) := by decide +kernel
theorem dX6_bestRule_18 : decode cX6_bestRule 18 = .ok (.iconst 0, 1) := by decide +kernel
theorem dX6_bestRule_19 : decode cX6_bestRule 19 = .ok (.istore 4, 2) := by decide +kernel
theorem dX6_bestRule_21 : decode cX6_bestRule 21 = .ok (.iload 4, 2) := by decide +kernel
theorem dX6_bestRule_23 : decode cX6_bestRule 23 = .ok (.iconst 3, 1) := by decide +kernel
theorem dX6_bestRule_24 : decode cX6_bestRule 24 = .ok (.if_icmp .ge 63, 3) := by decide +kernel
theorem dX6_bestRule_27 : decode cX6_bestRule 27 = .ok (.aload_n 0, 1) := by decide +kernel
theorem dX6_bestRule_28 : decode cX6_bestRule 28 = .ok (.iload 4, 2) := by decide +kernel
theorem dX6_bestRule_30 : decode cX6_bestRule 30 = .ok (.invokevirtual 137, 3) := by decide +kernel
theorem dX6_bestRule_33 : decode cX6_bestRule 33 = .ok (.istore 5, 2) := by decide +kernel
theorem dX6_bestRule_35 : decode cX6_bestRule 35 = .ok (.iload 5, 2) := by decide +kernel
theorem dX6_bestRule_37 : decode cX6_bestRule 37 = .ok (.ifCond .lt 17, 3) := by decide +kernel
theorem dX6_bestRule_40 : decode cX6_bestRule 40 = .ok (.iload_n 3, 1) := by decide +kernel
theorem dX6_bestRule_41 : decode cX6_bestRule 41 = .ok (.ifCond .lt 9, 3) := by decide +kernel
theorem dX6_bestRule_44 : decode cX6_bestRule 44 = .ok (.iload 5, 2) := by decide +kernel
theorem dX6_bestRule_46 : decode cX6_bestRule 46 = .ok (.iload_n 3, 1) := by decide +kernel
theorem dX6_bestRule_47 : decode cX6_bestRule 47 = .ok (.if_icmp .ge 7, 3) := by decide +kernel
theorem dX6_bestRule_50 : decode cX6_bestRule 50 = .ok (.iconst 1, 1) := by decide +kernel
theorem dX6_bestRule_51 : decode cX6_bestRule 51 = .ok (.goto 4, 3) := by decide +kernel
theorem dX6_bestRule_54 : decode cX6_bestRule 54 = .ok (.iconst 0, 1) := by decide +kernel
theorem dX6_bestRule_55 : decode cX6_bestRule 55 = .ok (.istore 6, 2) := by decide +kernel
theorem dX6_bestRule_57 : decode cX6_bestRule 57 = .ok (.iload 6, 2) := by decide +kernel
theorem dX6_bestRule_59 : decode cX6_bestRule 59 = .ok (.ifCond .eq 8, 3) := by decide +kernel
theorem dX6_bestRule_62 : decode cX6_bestRule 62 = .ok (.iload 4, 2) := by decide +kernel
theorem dX6_bestRule_64 : decode cX6_bestRule 64 = .ok (.goto 4, 3) := by decide +kernel
theorem dX6_bestRule_67 : decode cX6_bestRule 67 = .ok (.iload_n 2, 1) := by decide +kernel
theorem dX6_bestRule_68 : decode cX6_bestRule 68 = .ok (.istore_n 2, 1) := by decide +kernel
theorem dX6_bestRule_69 : decode cX6_bestRule 69 = .ok (.iload 6, 2) := by decide +kernel
theorem dX6_bestRule_71 : decode cX6_bestRule 71 = .ok (.ifCond .eq 8, 3) := by decide +kernel
theorem dX6_bestRule_74 : decode cX6_bestRule 74 = .ok (.iload 5, 2) := by decide +kernel
theorem dX6_bestRule_76 : decode cX6_bestRule 76 = .ok (.goto 4, 3) := by decide +kernel
theorem dX6_bestRule_79 : decode cX6_bestRule 79 = .ok (.iload_n 3, 1) := by decide +kernel
theorem dX6_bestRule_80 : decode cX6_bestRule 80 = .ok (.istore_n 3, 1) := by decide +kernel
theorem dX6_bestRule_81 : decode cX6_bestRule 81 = .ok (.iinc 4 1, 3) := by decide +kernel
theorem dX6_bestRule_84 : decode cX6_bestRule 84 = .ok (.goto (-63), 3) := by decide +kernel
theorem dX6_bestRule_87 : decode cX6_bestRule 87 = .ok (.iload_n 1, 1) := by decide +kernel
theorem dX6_bestRule_88 : decode cX6_bestRule 88 = .ok (.ifCond .ne 7, 3) := by decide +kernel
theorem dX6_bestRule_91 : decode cX6_bestRule 91 = .ok (.iload_n 2, 1) := by decide +kernel
theorem dX6_bestRule_92 : decode cX6_bestRule 92 = .ok (.goto 4, 3) := by decide +kernel
theorem dX6_bestRule_95 : decode cX6_bestRule 95 = .ok (.iload_n 3, 1) := by decide +kernel
theorem dX6_bestRule_96 : decode cX6_bestRule 96 = .ok (.ireturn, 1) := by decide +kernel
set_option maxRecDepth 20000 in
theorem ggX6_wouldFlood_X6_copies : GoodIn wsX6_wouldFlood wsX6_copies := goodIn_r _ [6] (by decide +kernel) (by decide +kernel)
set_option maxRecDepth 20000 in
theorem gX6_wouldFlood_X6_copies : GoodIn wsX6_wouldFlood (va_wsS RX6 123 yX6_copies wsX6_copies) := goodIn_app (goodIn_of _ (by decide +kernel)) ggX6_wouldFlood_X6_copies
set_option maxRecDepth 20000 in
theorem ggX6_wouldFlood_X6_passes : GoodIn wsX6_wouldFlood wsX6_passes := goodIn_r _ [10, 1, 11, 12, 13, 5, 14, 15, 16, 17, 18, 19, 20, 21, 22, 23, 24, 25, 26, 27, 28, 29, 30, 31, 32, 33, 34, 35, 36, 37, 38, 39, 40, 41, 42, 43, 44, 45, 46, 47, 48, 49, 50, 51, 52, 53, 54, 55, 56, 57, 58, 59, 60, 61, 62, 63, 64, 65, 66, 67, 68, 69, 70, 71, 72, 73, 74, 75, 76, 77, 78, 79, 80, 81, 82, 83, 84, 85, 86, 87, 88, 89, 90, 91, 92, 93] (by decide +kernel) (by decide +kernel)
set_option maxRecDepth 20000 in
theorem gX6_wouldFlood_X6_passes : GoodIn wsX6_wouldFlood (wsV RX6 120 RX6 yX6_passes wsX6_passes) := goodIn_app (goodIn_of _ (by decide +kernel)) ggX6_wouldFlood_X6_passes
theorem dX6_wouldFlood_0 : decode cX6_wouldFlood 0 = .ok (.aload_n 0, 1) := by decide +kernel
theorem dX6_wouldFlood_1 : decode cX6_wouldFlood 1 = .ok (.getfield 7, 3) := by decide +kernel
theorem dX6_wouldFlood_4 : decode cX6_wouldFlood 4 = .ok (.aload_n 0, 1) := by decide +kernel
theorem dX6_wouldFlood_5 : decode cX6_wouldFlood 5 = .ok (.getfield 19, 3) := by decide +kernel
theorem dX6_wouldFlood_8 : decode cX6_wouldFlood 8 = .ok (.invokestatic 123, 3) := by decide +kernel
theorem dX6_wouldFlood_11 : decode cX6_wouldFlood 11 = .ok (.aload_n 0, 1) := by decide +kernel
theorem dX6_wouldFlood_12 : decode cX6_wouldFlood 12 = .ok (.getfield 7, 3) := by decide +kernel
theorem dX6_wouldFlood_15 : decode cX6_wouldFlood 15 = .ok (.bipush 16, 2) := by decide +kernel
theorem dX6_wouldFlood_17 : decode cX6_wouldFlood 17 = .ok (.iaload, 1) := by decide +kernel
theorem dX6_wouldFlood_18 : decode cX6_wouldFlood 18 = .ok (.istore_n 3, 1) := by decide +kernel
theorem dX6_wouldFlood_19 : decode cX6_wouldFlood 19 = .ok (.aload_n 0, 1) := by decide +kernel
theorem dX6_wouldFlood_20 : decode cX6_wouldFlood 20 = .ok (.getfield 7, 3) := by decide +kernel
theorem dX6_wouldFlood_23 : decode cX6_wouldFlood 23 = .ok (.iconst 5, 1) := by decide +kernel
theorem dX6_wouldFlood_24 : decode cX6_wouldFlood 24 = .ok (.iload_n 1, 1) := by decide +kernel
theorem dX6_wouldFlood_25 : decode cX6_wouldFlood 25 = .ok (.iastore, 1) := by decide +kernel
theorem dX6_wouldFlood_26 : decode cX6_wouldFlood 26 = .ok (.iconst 0, 1) := by decide +kernel
theorem dX6_wouldFlood_27 : decode cX6_wouldFlood 27 = .ok (.istore 4, 2) := by decide +kernel
theorem dX6_wouldFlood_29 : decode cX6_wouldFlood 29 = .ok (.iload 4, 2) := by decide +kernel
theorem dX6_wouldFlood_31 : decode cX6_wouldFlood 31 = .ok (.iload_n 2, 1) := by decide +kernel
theorem dX6_wouldFlood_32 : decode cX6_wouldFlood 32 = .ok (.if_icmp .ge 24, 3) := by decide +kernel
theorem dX6_wouldFlood_35 : decode cX6_wouldFlood 35 = .ok (.aload_n 0, 1) := by decide +kernel
theorem dX6_wouldFlood_36 : decode cX6_wouldFlood 36 = .ok (.getfield 7, 3) := by decide +kernel
theorem dX6_wouldFlood_39 : decode cX6_wouldFlood 39 = .ok (.bipush 16, 2) := by decide +kernel
theorem dX6_wouldFlood_41 : decode cX6_wouldFlood 41 = .ok (.iaload, 1) := by decide +kernel
theorem dX6_wouldFlood_42 : decode cX6_wouldFlood 42 = .ok (.iload_n 3, 1) := by decide +kernel
theorem dX6_wouldFlood_43 : decode cX6_wouldFlood 43 = .ok (.if_icmp .ne 13, 3) := by decide +kernel
theorem dX6_wouldFlood_46 : decode cX6_wouldFlood 46 = .ok (.aload_n 0, 1) := by decide +kernel
theorem dX6_wouldFlood_47 : decode cX6_wouldFlood 47 = .ok (.invokevirtual 120, 3) := by decide +kernel
theorem dX6_wouldFlood_50 : decode cX6_wouldFlood 50 = .ok (.iinc 4 1, 3) := by decide +kernel
theorem dX6_wouldFlood_53 : decode cX6_wouldFlood 53 = .ok (.goto (-24), 3) := by decide +kernel
theorem dX6_wouldFlood_56 : decode cX6_wouldFlood 56 = .ok (.aload_n 0, 1) := by decide +kernel
theorem dX6_wouldFlood_57 : decode cX6_wouldFlood 57 = .ok (.getfield 7, 3) := by decide +kernel
theorem dX6_wouldFlood_60 : decode cX6_wouldFlood 60 = .ok (.bipush 16, 2) := by decide +kernel
theorem dX6_wouldFlood_62 : decode cX6_wouldFlood 62 = .ok (.iaload, 1) := by decide +kernel
theorem dX6_wouldFlood_63 : decode cX6_wouldFlood 63 = .ok (.iload_n 3, 1) := by decide +kernel
theorem dX6_wouldFlood_64 : decode cX6_wouldFlood 64 = .ok (.if_icmp .le 7, 3) := by decide +kernel
theorem dX6_wouldFlood_67 : decode cX6_wouldFlood 67 = .ok (.iconst 1, 1) := by decide +kernel
theorem dX6_wouldFlood_68 : decode cX6_wouldFlood 68 = .ok (.goto 4, 3) := by decide +kernel
theorem dX6_wouldFlood_71 : decode cX6_wouldFlood 71 = .ok (.iconst 0, 1) := by decide +kernel
theorem dX6_wouldFlood_72 : decode cX6_wouldFlood 72 = .ok (.istore 4, 2) := by decide +kernel
theorem dX6_wouldFlood_74 : decode cX6_wouldFlood 74 = .ok (.aload_n 0, 1) := by decide +kernel
theorem dX6_wouldFlood_75 : decode cX6_wouldFlood 75 = .ok (.getfield 19, 3) := by decide +kernel
theorem dX6_wouldFlood_78 : decode cX6_wouldFlood 78 = .ok (.aload_n 0, 1) := by decide +kernel
theorem dX6_wouldFlood_79 : decode cX6_wouldFlood 79 = .ok (.getfield 7, 3) := by decide +kernel
theorem dX6_wouldFlood_82 : decode cX6_wouldFlood 82 = .ok (.invokestatic 123, 3) := by decide +kernel
theorem dX6_wouldFlood_85 : decode cX6_wouldFlood 85 = .ok (.iload 4, 2) := by decide +kernel
theorem dX6_wouldFlood_87 : decode cX6_wouldFlood 87 = .ok (.ireturn, 1) := by decide +kernel
set_option maxRecDepth 20000 in
theorem ggX6_leastFlood_X6_in : GoodIn wsX6_leastFlood wsX6_in := goodIn_r _ [7] (by decide +kernel) (by decide +kernel)
set_option maxRecDepth 20000 in
theorem gX6_leastFlood_X6_in : GoodIn wsX6_leastFlood (va_wsS RX6 99 yX6_in wsX6_in) := goodIn_app (goodIn_of _ (by decide +kernel)) ggX6_leastFlood_X6_in
set_option maxRecDepth 20000 in
theorem ggX6_leastFlood_X6_wouldFlood : GoodIn wsX6_leastFlood wsX6_wouldFlood := goodIn_r _ [11, 2, 12, 13, 14, 6, 15, 16, 17, 18, 19, 20, 21, 22, 23, 24, 25, 26, 27, 28, 29, 30, 31, 32, 33, 34, 35, 3, 36, 37, 38, 39, 40, 41, 42, 43, 44, 45, 46, 47, 48, 49, 50, 51, 52, 53, 54, 55, 56, 57, 58, 59, 60, 61, 62, 63, 64, 65, 66, 67, 68, 69, 70, 71, 72, 73, 74, 75, 76, 77, 78, 79, 80, 81, 82, 83, 84, 85, 86, 87, 88, 89, 90, 91, 92, 93, 94, 95, 96, 97, 98, 99, 100, 101] (by decide +kernel) (by decide +kernel)
set_option maxRecDepth 20000 in
theorem gX6_leastFlood_X6_wouldFlood : GoodIn wsX6_leastFlood (wsV RX6 140 RX6 yX6_wouldFlood wsX6_wouldFlood) := goodIn_app (goodIn_of _ (by decide +kernel)) ggX6_leastFlood_X6_wouldFlood
theorem dX6_leastFlood_0 : decode cX6_leastFlood 0 = .ok (.iload_n 1, 1) := by decide +kernel
theorem dX6_leastFlood_1 : decode cX6_leastFlood 1 = .ok (.iconst 1, 1) := by decide +kernel
theorem dX6_leastFlood_2 : decode cX6_leastFlood 2 = .ok (.bipush 60, 2) := by decide +kernel
theorem dX6_leastFlood_4 : decode cX6_leastFlood 4 = .ok (.invokestatic 99, 3) := by decide +kernel
theorem dX6_leastFlood_7 : decode cX6_leastFlood 7 = .ok (.ifCond .ne 6, 3) := by decide +kernel
theorem dX6_leastFlood_10 : decode cX6_leastFlood 10 = .ok (.ldc 103, 2) := by decide +kernel
theorem dX6_leastFlood_12 : decode cX6_leastFlood 12 = .ok (.ireturn, 1) := by decide +kernel
theorem dX6_leastFlood_13 : decode cX6_leastFlood 13 = .ok (.aload_n 0, 1) := by decide +kernel
theorem dX6_leastFlood_14 : decode cX6_leastFlood 14 = .ok (.getfield 7, 3) := by decide +kernel
theorem dX6_leastFlood_17 : decode cX6_leastFlood 17 = .ok (.bipush 9, 2) := by decide +kernel
theorem dX6_leastFlood_19 : decode cX6_leastFlood 19 = .ok (.iaload, 1) := by decide +kernel
theorem dX6_leastFlood_20 : decode cX6_leastFlood 20 = .ok (.iconst 1, 1) := by decide +kernel
theorem dX6_leastFlood_21 : decode cX6_leastFlood 21 = .ok (.if_icmp .ne 5, 3) := by decide +kernel
theorem dX6_leastFlood_24 : decode cX6_leastFlood 24 = .ok (.iconst 0, 1) := by decide +kernel
theorem dX6_leastFlood_25 : decode cX6_leastFlood 25 = .ok (.ireturn, 1) := by decide +kernel
theorem dX6_leastFlood_26 : decode cX6_leastFlood 26 = .ok (.ldc 40, 2) := by decide +kernel
theorem dX6_leastFlood_28 : decode cX6_leastFlood 28 = .ok (.istore_n 2, 1) := by decide +kernel
theorem dX6_leastFlood_29 : decode cX6_leastFlood 29 = .ok (.iconst 0, 1) := by decide +kernel
theorem dX6_leastFlood_30 : decode cX6_leastFlood 30 = .ok (.istore_n 3, 1) := by decide +kernel
theorem dX6_leastFlood_31 : decode cX6_leastFlood 31 = .ok (.iload_n 3, 1) := by decide +kernel
theorem dX6_leastFlood_32 : decode cX6_leastFlood 32 = .ok (.sipush 300, 3) := by decide +kernel
theorem dX6_leastFlood_35 : decode cX6_leastFlood 35 = .ok (.if_icmp .gt 28, 3) := by decide +kernel
theorem dX6_leastFlood_38 : decode cX6_leastFlood 38 = .ok (.iload_n 2, 1) := by decide +kernel
theorem dX6_leastFlood_39 : decode cX6_leastFlood 39 = .ok (.ifCond .ge 24, 3) := by decide +kernel
theorem dX6_leastFlood_42 : decode cX6_leastFlood 42 = .ok (.aload_n 0, 1) := by decide +kernel
theorem dX6_leastFlood_43 : decode cX6_leastFlood 43 = .ok (.iload_n 3, 1) := by decide +kernel
theorem dX6_leastFlood_44 : decode cX6_leastFlood 44 = .ok (.iload_n 1, 1) := by decide +kernel
theorem dX6_leastFlood_45 : decode cX6_leastFlood 45 = .ok (.invokevirtual 140, 3) := by decide +kernel
theorem dX6_leastFlood_48 : decode cX6_leastFlood 48 = .ok (.ifCond .eq 7, 3) := by decide +kernel
theorem dX6_leastFlood_51 : decode cX6_leastFlood 51 = .ok (.iload_n 3, 1) := by decide +kernel
theorem dX6_leastFlood_52 : decode cX6_leastFlood 52 = .ok (.goto 4, 3) := by decide +kernel
theorem dX6_leastFlood_55 : decode cX6_leastFlood 55 = .ok (.iload_n 2, 1) := by decide +kernel
theorem dX6_leastFlood_56 : decode cX6_leastFlood 56 = .ok (.istore_n 2, 1) := by decide +kernel
theorem dX6_leastFlood_57 : decode cX6_leastFlood 57 = .ok (.iinc 3 1, 3) := by decide +kernel
theorem dX6_leastFlood_60 : decode cX6_leastFlood 60 = .ok (.goto (-29), 3) := by decide +kernel
theorem dX6_leastFlood_63 : decode cX6_leastFlood 63 = .ok (.iload_n 2, 1) := by decide +kernel
theorem dX6_leastFlood_64 : decode cX6_leastFlood 64 = .ok (.ireturn, 1) := by decide +kernel
set_option maxRecDepth 20000 in
theorem ggX6_count_X6_head : GoodIn wsX6_count wsX6_head := goodIn_r _ [9, 1, 10, 11, 12, 13, 14, 15, 16, 17, 18, 19, 20] (by decide +kernel) (by decide +kernel)
set_option maxRecDepth 20000 in
theorem gX6_count_X6_head : GoodIn wsX6_count (wsV RX6 80 RX6 yX6_head wsX6_head) := goodIn_app (goodIn_of _ (by decide +kernel)) ggX6_count_X6_head
theorem dX6_count_0 : decode cX6_count 0 = .ok (.iload_n 1, 1) := by decide +kernel
theorem dX6_count_1 : decode cX6_count 1 = .ok (.tableswitch 177 0 22 #[107, 107, 107, 116, 121, 121, 121, 121, 133, 141, 149, 157, 162, 177, 177, 177, 177, 177, 177, 177, 167, 167, 167], 107) := by decide +kernel
theorem dX6_count_108 : decode cX6_count 108 = .ok (.aload_n 0, 1) := by decide +kernel
theorem dX6_count_109 : decode cX6_count 109 = .ok (.getfield 7, 3) := by decide +kernel
theorem dX6_count_112 : decode cX6_count 112 = .ok (.iconst 3, 1) := by decide +kernel
theorem dX6_count_113 : decode cX6_count 113 = .ok (.iload_n 1, 1) := by decide +kernel
theorem dX6_count_114 : decode cX6_count 114 = .ok (.iadd, 1) := by decide +kernel
theorem dX6_count_115 : decode cX6_count 115 = .ok (.iaload, 1) := by decide +kernel
theorem dX6_count_116 : decode cX6_count 116 = .ok (.ireturn, 1) := by decide +kernel
theorem dX6_count_117 : decode cX6_count 117 = .ok (.aload_n 0, 1) := by decide +kernel
theorem dX6_count_118 : decode cX6_count 118 = .ok (.invokevirtual 80, 3) := by decide +kernel
theorem dX6_count_121 : decode cX6_count 121 = .ok (.ireturn, 1) := by decide +kernel
theorem dX6_count_122 : decode cX6_count 122 = .ok (.aload_n 0, 1) := by decide +kernel
theorem dX6_count_123 : decode cX6_count 123 = .ok (.getfield 7, 3) := by decide +kernel
theorem dX6_count_126 : decode cX6_count 126 = .ok (.bipush 12, 2) := by decide +kernel
theorem dX6_count_128 : decode cX6_count 128 = .ok (.iload_n 1, 1) := by decide +kernel
theorem dX6_count_129 : decode cX6_count 129 = .ok (.iadd, 1) := by decide +kernel
theorem dX6_count_130 : decode cX6_count 130 = .ok (.iconst 4, 1) := by decide +kernel
theorem dX6_count_131 : decode cX6_count 131 = .ok (.isub, 1) := by decide +kernel
theorem dX6_count_132 : decode cX6_count 132 = .ok (.iaload, 1) := by decide +kernel
theorem dX6_count_133 : decode cX6_count 133 = .ok (.ireturn, 1) := by decide +kernel
theorem dX6_count_134 : decode cX6_count 134 = .ok (.aload_n 0, 1) := by decide +kernel
theorem dX6_count_135 : decode cX6_count 135 = .ok (.getfield 7, 3) := by decide +kernel
theorem dX6_count_138 : decode cX6_count 138 = .ok (.bipush 10, 2) := by decide +kernel
theorem dX6_count_140 : decode cX6_count 140 = .ok (.iaload, 1) := by decide +kernel
theorem dX6_count_141 : decode cX6_count 141 = .ok (.ireturn, 1) := by decide +kernel
theorem dX6_count_142 : decode cX6_count 142 = .ok (.aload_n 0, 1) := by decide +kernel
theorem dX6_count_143 : decode cX6_count 143 = .ok (.getfield 7, 3) := by decide +kernel
theorem dX6_count_146 : decode cX6_count 146 = .ok (.bipush 9, 2) := by decide +kernel
theorem dX6_count_148 : decode cX6_count 148 = .ok (.iaload, 1) := by decide +kernel
theorem dX6_count_149 : decode cX6_count 149 = .ok (.ireturn, 1) := by decide +kernel
theorem dX6_count_150 : decode cX6_count 150 = .ok (.aload_n 0, 1) := by decide +kernel
theorem dX6_count_151 : decode cX6_count 151 = .ok (.getfield 7, 3) := by decide +kernel
theorem dX6_count_154 : decode cX6_count 154 = .ok (.bipush 16, 2) := by decide +kernel
theorem dX6_count_156 : decode cX6_count 156 = .ok (.iaload, 1) := by decide +kernel
theorem dX6_count_157 : decode cX6_count 157 = .ok (.ireturn, 1) := by decide +kernel
theorem dX6_count_158 : decode cX6_count 158 = .ok (.aload_n 0, 1) := by decide +kernel
theorem dX6_count_159 : decode cX6_count 159 = .ok (.getfield 32, 3) := by decide +kernel
theorem dX6_count_162 : decode cX6_count 162 = .ok (.ireturn, 1) := by decide +kernel
theorem dX6_count_163 : decode cX6_count 163 = .ok (.aload_n 0, 1) := by decide +kernel
theorem dX6_count_164 : decode cX6_count 164 = .ok (.getfield 143, 3) := by decide +kernel
theorem dX6_count_167 : decode cX6_count 167 = .ok (.ireturn, 1) := by decide +kernel
theorem dX6_count_168 : decode cX6_count 168 = .ok (.aload_n 0, 1) := by decide +kernel
theorem dX6_count_169 : decode cX6_count 169 = .ok (.getfield 7, 3) := by decide +kernel
theorem dX6_count_172 : decode cX6_count 172 = .ok (.iload_n 1, 1) := by decide +kernel
theorem dX6_count_173 : decode cX6_count 173 = .ok (.bipush 20, 2) := by decide +kernel
theorem dX6_count_175 : decode cX6_count 175 = .ok (.isub, 1) := by decide +kernel
theorem dX6_count_176 : decode cX6_count 176 = .ok (.iaload, 1) := by decide +kernel
theorem dX6_count_177 : decode cX6_count 177 = .ok (.ireturn, 1) := by decide +kernel
theorem dX6_count_178 : decode cX6_count 178 = .ok (.ldc 103, 2) := by decide +kernel
theorem dX6_count_180 : decode cX6_count 180 = .ok (.ireturn, 1) := by decide +kernel
theorem dX6_undo_0 : decode cX6_undo 0 = .ok (.aload_n 0, 1) := by decide +kernel
theorem dX6_undo_1 : decode cX6_undo 1 = .ok (.getfield 32, 3) := by decide +kernel
theorem dX6_undo_4 : decode cX6_undo 4 = .ok (.ifCond .ne 6, 3) := by decide +kernel
theorem dX6_undo_7 : decode cX6_undo 7 = .ok (.ldc 112, 2) := by decide +kernel
theorem dX6_undo_9 : decode cX6_undo 9 = .ok (.ireturn, 1) := by decide +kernel
theorem dX6_undo_10 : decode cX6_undo 10 = .ok (.aload_n 0, 1) := by decide +kernel
theorem dX6_undo_11 : decode cX6_undo 11 = .ok (.dup, 1) := by decide +kernel
theorem dX6_undo_12 : decode cX6_undo 12 = .ok (.getfield 32, 3) := by decide +kernel
theorem dX6_undo_15 : decode cX6_undo 15 = .ok (.iconst 1, 1) := by decide +kernel
theorem dX6_undo_16 : decode cX6_undo 16 = .ok (.isub, 1) := by decide +kernel
theorem dX6_undo_17 : decode cX6_undo 17 = .ok (.putfield 32, 3) := by decide +kernel
theorem dX6_undo_20 : decode cX6_undo 20 = .ok (.iconst 0, 1) := by decide +kernel
theorem dX6_undo_21 : decode cX6_undo 21 = .ok (.istore_n 1, 1) := by decide +kernel
theorem dX6_undo_22 : decode cX6_undo 22 = .ok (.iload_n 1, 1) := by decide +kernel
theorem dX6_undo_23 : decode cX6_undo 23 = .ok (.bipush 86, 2) := by decide +kernel
theorem dX6_undo_25 : decode cX6_undo 25 = .ok (.if_icmp .ge 29, 3) := by decide +kernel
theorem dX6_undo_28 : decode cX6_undo 28 = .ok (.aload_n 0, 1) := by decide +kernel
theorem dX6_undo_29 : decode cX6_undo 29 = .ok (.getfield 7, 3) := by decide +kernel
theorem dX6_undo_32 : decode cX6_undo 32 = .ok (.iload_n 1, 1) := by decide +kernel
theorem dX6_undo_33 : decode cX6_undo 33 = .ok (.aload_n 0, 1) := by decide +kernel
theorem dX6_undo_34 : decode cX6_undo 34 = .ok (.getfield 13, 3) := by decide +kernel
theorem dX6_undo_37 : decode cX6_undo 37 = .ok (.bipush 86, 2) := by decide +kernel
theorem dX6_undo_39 : decode cX6_undo 39 = .ok (.aload_n 0, 1) := by decide +kernel
theorem dX6_undo_40 : decode cX6_undo 40 = .ok (.getfield 32, 3) := by decide +kernel
theorem dX6_undo_43 : decode cX6_undo 43 = .ok (.imul, 1) := by decide +kernel
theorem dX6_undo_44 : decode cX6_undo 44 = .ok (.iload_n 1, 1) := by decide +kernel
theorem dX6_undo_45 : decode cX6_undo 45 = .ok (.iadd, 1) := by decide +kernel
theorem dX6_undo_46 : decode cX6_undo 46 = .ok (.iaload, 1) := by decide +kernel
theorem dX6_undo_47 : decode cX6_undo 47 = .ok (.iastore, 1) := by decide +kernel
theorem dX6_undo_48 : decode cX6_undo 48 = .ok (.iinc 1 1, 3) := by decide +kernel
theorem dX6_undo_51 : decode cX6_undo 51 = .ok (.goto (-29), 3) := by decide +kernel
theorem dX6_undo_54 : decode cX6_undo 54 = .ok (.aload_n 0, 1) := by decide +kernel
theorem dX6_undo_55 : decode cX6_undo 55 = .ok (.getfield 32, 3) := by decide +kernel
theorem dX6_undo_58 : decode cX6_undo 58 = .ok (.ireturn, 1) := by decide +kernel
set_option maxRecDepth 20000 in
theorem ggX6_type_X6_in : GoodIn wsX6_type wsX6_in := goodIn_r _ [8] (by decide +kernel) (by decide +kernel)
set_option maxRecDepth 20000 in
theorem gX6_type_X6_in : GoodIn wsX6_type (va_wsS RX6 99 yX6_in wsX6_in) := goodIn_app (goodIn_of _ (by decide +kernel)) ggX6_type_X6_in
theorem dX6_type_0 : decode cX6_type 0 = .ok (.iload_n 1, 1) := by decide +kernel
theorem dX6_type_1 : decode cX6_type 1 = .ok (.bipush 32, 2) := by decide +kernel
theorem dX6_type_3 : decode cX6_type 3 = .ok (.bipush 126, 2) := by decide +kernel
theorem dX6_type_5 : decode cX6_type 5 = .ok (.invokestatic 99, 3) := by decide +kernel
theorem dX6_type_8 : decode cX6_type 8 = .ok (.ifCond .ne 6, 3) := by decide +kernel
theorem dX6_type_11 : decode cX6_type 11 = .ok (.ldc 103, 2) := by decide +kernel
theorem dX6_type_13 : decode cX6_type 13 = .ok (.ireturn, 1) := by decide +kernel
theorem dX6_type_14 : decode cX6_type 14 = .ok (.aload_n 0, 1) := by decide +kernel
theorem dX6_type_15 : decode cX6_type 15 = .ok (.getfield 143, 3) := by decide +kernel
theorem dX6_type_18 : decode cX6_type 18 = .ok (.bipush 60, 2) := by decide +kernel
theorem dX6_type_20 : decode cX6_type 20 = .ok (.if_icmp .ne 6, 3) := by decide +kernel
theorem dX6_type_23 : decode cX6_type 23 = .ok (.ldc 104, 2) := by decide +kernel
theorem dX6_type_25 : decode cX6_type 25 = .ok (.ireturn, 1) := by decide +kernel
theorem dX6_type_26 : decode cX6_type 26 = .ok (.aload_n 0, 1) := by decide +kernel
theorem dX6_type_27 : decode cX6_type 27 = .ok (.getfield 22, 3) := by decide +kernel
theorem dX6_type_30 : decode cX6_type 30 = .ok (.aload_n 0, 1) := by decide +kernel
theorem dX6_type_31 : decode cX6_type 31 = .ok (.getfield 143, 3) := by decide +kernel
theorem dX6_type_34 : decode cX6_type 34 = .ok (.iload_n 1, 1) := by decide +kernel
theorem dX6_type_35 : decode cX6_type 35 = .ok (.iastore, 1) := by decide +kernel
theorem dX6_type_36 : decode cX6_type 36 = .ok (.aload_n 0, 1) := by decide +kernel
theorem dX6_type_37 : decode cX6_type 37 = .ok (.dup, 1) := by decide +kernel
theorem dX6_type_38 : decode cX6_type 38 = .ok (.getfield 143, 3) := by decide +kernel
theorem dX6_type_41 : decode cX6_type 41 = .ok (.iconst 1, 1) := by decide +kernel
theorem dX6_type_42 : decode cX6_type 42 = .ok (.iadd, 1) := by decide +kernel
theorem dX6_type_43 : decode cX6_type 43 = .ok (.putfield 143, 3) := by decide +kernel
theorem dX6_type_46 : decode cX6_type 46 = .ok (.aload_n 0, 1) := by decide +kernel
theorem dX6_type_47 : decode cX6_type 47 = .ok (.getfield 143, 3) := by decide +kernel
theorem dX6_type_50 : decode cX6_type 50 = .ok (.ireturn, 1) := by decide +kernel
theorem dX6_clearText_0 : decode cX6_clearText 0 = .ok (.aload_n 0, 1) := by decide +kernel
theorem dX6_clearText_1 : decode cX6_clearText 1 = .ok (.getfield 143, 3) := by decide +kernel
theorem dX6_clearText_4 : decode cX6_clearText 4 = .ok (.istore_n 1, 1) := by decide +kernel
theorem dX6_clearText_5 : decode cX6_clearText 5 = .ok (.aload_n 0, 1) := by decide +kernel
theorem dX6_clearText_6 : decode cX6_clearText 6 = .ok (.iconst 0, 1) := by decide +kernel
theorem dX6_clearText_7 : decode cX6_clearText 7 = .ok (.putfield 143, 3) := by decide +kernel
theorem dX6_clearText_10 : decode cX6_clearText 10 = .ok (.iload_n 1, 1) := by decide +kernel
theorem dX6_clearText_11 : decode cX6_clearText 11 = .ok (.ireturn, 1) := by decide +kernel
set_option maxRecDepth 20000 in
theorem ggX6_isAt_X6_in : GoodIn wsX6_isAt wsX6_in := goodIn_r _ [7] (by decide +kernel) (by decide +kernel)
set_option maxRecDepth 20000 in
theorem gX6_isAt_X6_in : GoodIn wsX6_isAt (va_wsS RX6 99 yX6_in wsX6_in) := goodIn_app (goodIn_of _ (by decide +kernel)) ggX6_isAt_X6_in
theorem dX6_isAt_0 : decode cX6_isAt 0 = .ok (.aload_n 0, 1) := by decide +kernel
theorem dX6_isAt_1 : decode cX6_isAt 1 = .ok (.getfield 146, 3) := by decide +kernel
theorem dX6_isAt_4 : decode cX6_isAt 4 = .ok (.aload_n 0, 1) := by decide +kernel
theorem dX6_isAt_5 : decode cX6_isAt 5 = .ok (.getfield 143, 3) := by decide +kernel
theorem dX6_isAt_8 : decode cX6_isAt 8 = .ok (.if_icmp .ge 24, 3) := by decide +kernel
theorem dX6_isAt_11 : decode cX6_isAt 11 = .ok (.aload_n 0, 1) := by decide +kernel
theorem dX6_isAt_12 : decode cX6_isAt 12 = .ok (.getfield 22, 3) := by decide +kernel
theorem dX6_isAt_15 : decode cX6_isAt 15 = .ok (.aload_n 0, 1) := by decide +kernel
theorem dX6_isAt_16 : decode cX6_isAt 16 = .ok (.getfield 146, 3) := by decide +kernel
theorem dX6_isAt_19 : decode cX6_isAt 19 = .ok (.iaload, 1) := by decide +kernel
theorem dX6_isAt_20 : decode cX6_isAt 20 = .ok (.iload_n 1, 1) := by decide +kernel
theorem dX6_isAt_21 : decode cX6_isAt 21 = .ok (.iload_n 2, 1) := by decide +kernel
theorem dX6_isAt_22 : decode cX6_isAt 22 = .ok (.invokestatic 99, 3) := by decide +kernel
theorem dX6_isAt_25 : decode cX6_isAt 25 = .ok (.ifCond .eq 7, 3) := by decide +kernel
theorem dX6_isAt_28 : decode cX6_isAt 28 = .ok (.iconst 1, 1) := by decide +kernel
theorem dX6_isAt_29 : decode cX6_isAt 29 = .ok (.goto 4, 3) := by decide +kernel
theorem dX6_isAt_32 : decode cX6_isAt 32 = .ok (.iconst 0, 1) := by decide +kernel
theorem dX6_isAt_33 : decode cX6_isAt 33 = .ok (.ireturn, 1) := by decide +kernel
set_option maxRecDepth 20000 in
theorem ggX6_number_X6_isAt : GoodIn wsX6_number wsX6_isAt := goodIn_r _ [8, 1, 9, 3, 10, 11, 7, 12, 13, 14, 15, 16, 17, 18, 19, 20, 21, 22, 23] (by decide +kernel) (by decide +kernel)
set_option maxRecDepth 20000 in
theorem gX6_number_X6_isAt : GoodIn wsX6_number (wsV RX6 149 RX6 yX6_isAt wsX6_isAt) := goodIn_app (goodIn_of _ (by decide +kernel)) ggX6_number_X6_isAt
theorem dX6_number_0 : decode cX6_number 0 = .ok (.aload_n 0, 1) := by decide +kernel
theorem dX6_number_1 : decode cX6_number 1 = .ok (.getfield 146, 3) := by decide +kernel
theorem dX6_number_4 : decode cX6_number 4 = .ok (.istore_n 3, 1) := by decide +kernel
theorem dX6_number_5 : decode cX6_number 5 = .ok (.aload_n 0, 1) := by decide +kernel
theorem dX6_number_6 : decode cX6_number 6 = .ok (.getfield 25, 3) := by decide +kernel
theorem dX6_number_9 : decode cX6_number 9 = .ok (.iload_n 1, 1) := by decide +kernel
theorem dX6_number_10 : decode cX6_number 10 = .ok (.iconst 0, 1) := by decide +kernel
theorem dX6_number_11 : decode cX6_number 11 = .ok (.iastore, 1) := by decide +kernel
theorem dX6_number_12 : decode cX6_number 12 = .ok (.aload_n 0, 1) := by decide +kernel
theorem dX6_number_13 : decode cX6_number 13 = .ok (.bipush 48, 2) := by decide +kernel
theorem dX6_number_15 : decode cX6_number 15 = .ok (.bipush 57, 2) := by decide +kernel
theorem dX6_number_17 : decode cX6_number 17 = .ok (.invokevirtual 149, 3) := by decide +kernel
theorem dX6_number_20 : decode cX6_number 20 = .ok (.ifCond .eq 54, 3) := by decide +kernel
theorem dX6_number_23 : decode cX6_number 23 = .ok (.aload_n 0, 1) := by decide +kernel
theorem dX6_number_24 : decode cX6_number 24 = .ok (.getfield 146, 3) := by decide +kernel
theorem dX6_number_27 : decode cX6_number 27 = .ok (.iload_n 3, 1) := by decide +kernel
theorem dX6_number_28 : decode cX6_number 28 = .ok (.isub, 1) := by decide +kernel
theorem dX6_number_29 : decode cX6_number 29 = .ok (.iconst 3, 1) := by decide +kernel
theorem dX6_number_30 : decode cX6_number 30 = .ok (.if_icmp .ge 44, 3) := by decide +kernel
theorem dX6_number_33 : decode cX6_number 33 = .ok (.aload_n 0, 1) := by decide +kernel
theorem dX6_number_34 : decode cX6_number 34 = .ok (.getfield 25, 3) := by decide +kernel
theorem dX6_number_37 : decode cX6_number 37 = .ok (.iload_n 1, 1) := by decide +kernel
theorem dX6_number_38 : decode cX6_number 38 = .ok (.bipush 10, 2) := by decide +kernel
theorem dX6_number_40 : decode cX6_number 40 = .ok (.aload_n 0, 1) := by decide +kernel
theorem dX6_number_41 : decode cX6_number 41 = .ok (.getfield 25, 3) := by decide +kernel
theorem dX6_number_44 : decode cX6_number 44 = .ok (.iload_n 1, 1) := by decide +kernel
theorem dX6_number_45 : decode cX6_number 45 = .ok (.iaload, 1) := by decide +kernel
theorem dX6_number_46 : decode cX6_number 46 = .ok (.imul, 1) := by decide +kernel
theorem dX6_number_47 : decode cX6_number 47 = .ok (.aload_n 0, 1) := by decide +kernel
theorem dX6_number_48 : decode cX6_number 48 = .ok (.getfield 22, 3) := by decide +kernel
theorem dX6_number_51 : decode cX6_number 51 = .ok (.aload_n 0, 1) := by decide +kernel
theorem dX6_number_52 : decode cX6_number 52 = .ok (.getfield 146, 3) := by decide +kernel
theorem dX6_number_55 : decode cX6_number 55 = .ok (.iaload, 1) := by decide +kernel
theorem dX6_number_56 : decode cX6_number 56 = .ok (.iadd, 1) := by decide +kernel
theorem dX6_number_57 : decode cX6_number 57 = .ok (.bipush 48, 2) := by decide +kernel
theorem dX6_number_59 : decode cX6_number 59 = .ok (.isub, 1) := by decide +kernel
theorem dX6_number_60 : decode cX6_number 60 = .ok (.iastore, 1) := by decide +kernel
theorem dX6_number_61 : decode cX6_number 61 = .ok (.aload_n 0, 1) := by decide +kernel
theorem dX6_number_62 : decode cX6_number 62 = .ok (.dup, 1) := by decide +kernel
theorem dX6_number_63 : decode cX6_number 63 = .ok (.getfield 146, 3) := by decide +kernel
theorem dX6_number_66 : decode cX6_number 66 = .ok (.iconst 1, 1) := by decide +kernel
theorem dX6_number_67 : decode cX6_number 67 = .ok (.iadd, 1) := by decide +kernel
theorem dX6_number_68 : decode cX6_number 68 = .ok (.putfield 146, 3) := by decide +kernel
theorem dX6_number_71 : decode cX6_number 71 = .ok (.goto (-59), 3) := by decide +kernel
theorem dX6_number_74 : decode cX6_number 74 = .ok (.aload_n 0, 1) := by decide +kernel
theorem dX6_number_75 : decode cX6_number 75 = .ok (.getfield 146, 3) := by decide +kernel
theorem dX6_number_78 : decode cX6_number 78 = .ok (.iload_n 3, 1) := by decide +kernel
theorem dX6_number_79 : decode cX6_number 79 = .ok (.if_icmp .le 16, 3) := by decide +kernel
theorem dX6_number_82 : decode cX6_number 82 = .ok (.aload_n 0, 1) := by decide +kernel
theorem dX6_number_83 : decode cX6_number 83 = .ok (.iload_n 2, 1) := by decide +kernel
theorem dX6_number_84 : decode cX6_number 84 = .ok (.iload_n 2, 1) := by decide +kernel
theorem dX6_number_85 : decode cX6_number 85 = .ok (.invokevirtual 149, 3) := by decide +kernel
theorem dX6_number_88 : decode cX6_number 88 = .ok (.ifCond .eq 7, 3) := by decide +kernel
theorem dX6_number_91 : decode cX6_number 91 = .ok (.iconst 1, 1) := by decide +kernel
theorem dX6_number_92 : decode cX6_number 92 = .ok (.goto 4, 3) := by decide +kernel
theorem dX6_number_95 : decode cX6_number 95 = .ok (.iconst 0, 1) := by decide +kernel
theorem dX6_number_96 : decode cX6_number 96 = .ok (.istore 4, 2) := by decide +kernel
theorem dX6_number_98 : decode cX6_number 98 = .ok (.aload_n 0, 1) := by decide +kernel
theorem dX6_number_99 : decode cX6_number 99 = .ok (.dup, 1) := by decide +kernel
theorem dX6_number_100 : decode cX6_number 100 = .ok (.getfield 146, 3) := by decide +kernel
theorem dX6_number_103 : decode cX6_number 103 = .ok (.iconst 1, 1) := by decide +kernel
theorem dX6_number_104 : decode cX6_number 104 = .ok (.iadd, 1) := by decide +kernel
theorem dX6_number_105 : decode cX6_number 105 = .ok (.putfield 146, 3) := by decide +kernel
theorem dX6_number_108 : decode cX6_number 108 = .ok (.iload 4, 2) := by decide +kernel
theorem dX6_number_110 : decode cX6_number 110 = .ok (.ireturn, 1) := by decide +kernel
theorem dX6_asReason_0 : decode cX6_asReason 0 = .ok (.iload_n 0, 1) := by decide +kernel
theorem dX6_asReason_1 : decode cX6_asReason 1 = .ok (.ifCond .lt 7, 3) := by decide +kernel
theorem dX6_asReason_4 : decode cX6_asReason 4 = .ok (.iconst 0, 1) := by decide +kernel
theorem dX6_asReason_5 : decode cX6_asReason 5 = .ok (.goto 14, 3) := by decide +kernel
theorem dX6_asReason_8 : decode cX6_asReason 8 = .ok (.iload_n 0, 1) := by decide +kernel
theorem dX6_asReason_9 : decode cX6_asReason 9 = .ok (.ldc 103, 2) := by decide +kernel
theorem dX6_asReason_11 : decode cX6_asReason 11 = .ok (.if_icmp .ne 7, 3) := by decide +kernel
theorem dX6_asReason_14 : decode cX6_asReason 14 = .ok (.iconst 2, 1) := by decide +kernel
theorem dX6_asReason_15 : decode cX6_asReason 15 = .ok (.goto 4, 3) := by decide +kernel
theorem dX6_asReason_18 : decode cX6_asReason 18 = .ok (.iconst 3, 1) := by decide +kernel
theorem dX6_asReason_19 : decode cX6_asReason 19 = .ok (.ireturn, 1) := by decide +kernel
set_option maxRecDepth 20000 in
theorem ggX6_does_X6_number : GoodIn wsX6_does wsX6_number := goodIn_r _ [8, 2, 3, 1, 9, 10, 11, 7, 12, 13, 14, 15, 16, 140, 141, 142, 143, 144, 145, 146, 147, 148, 149, 150] (by decide +kernel) (by decide +kernel)
set_option maxRecDepth 20000 in
theorem gX6_does_X6_number : GoodIn wsX6_does (wsV RX6 152 RX6 yX6_number wsX6_number) := goodIn_app (goodIn_of _ (by decide +kernel)) ggX6_does_X6_number
set_option maxRecDepth 20000 in
theorem ggX6_does_X6_order : GoodIn wsX6_does wsX6_order := goodIn_r _ [20, 21, 22, 23, 24, 25, 26, 7, 27, 14, 15, 16, 28, 29, 30, 31, 32, 33, 34, 35, 36, 37, 38, 39, 40, 41, 42, 43, 44, 45, 46, 47, 48, 49, 50, 51, 52, 53, 54, 55, 56, 57, 58, 59, 140, 141, 142, 143, 144, 145, 146, 147, 148, 149, 150] (by decide +kernel) (by decide +kernel)
set_option maxRecDepth 20000 in
theorem gX6_does_X6_order : GoodIn wsX6_does (wsV RX6 155 RX6 yX6_order wsX6_order) := goodIn_app (goodIn_of _ (by decide +kernel)) ggX6_does_X6_order
set_option maxRecDepth 20000 in
theorem ggX6_does_X6_asReason : GoodIn wsX6_does wsX6_asReason := goodIn_r _ [62, 21] (by decide +kernel) (by decide +kernel)
set_option maxRecDepth 20000 in
theorem gX6_does_X6_asReason : GoodIn wsX6_does (va_wsS RX6 158 yX6_asReason wsX6_asReason) := goodIn_app (goodIn_of _ (by decide +kernel)) ggX6_does_X6_asReason
set_option maxRecDepth 20000 in
theorem ggX6_does_X6_gate : GoodIn wsX6_does wsX6_gate := goodIn_r _ [66, 21, 23, 67, 14, 15, 7, 16, 32, 33, 34, 35, 36, 37, 38, 68, 69, 70, 71, 140, 141, 142, 143, 144, 145, 146, 147, 148, 149, 150] (by decide +kernel) (by decide +kernel)
set_option maxRecDepth 20000 in
theorem gX6_does_X6_gate : GoodIn wsX6_does (wsV RX6 161 RX6 yX6_gate wsX6_gate) := goodIn_app (goodIn_of _ (by decide +kernel)) ggX6_does_X6_gate
set_option maxRecDepth 20000 in
theorem ggX6_does_X6_inflow : GoodIn wsX6_does wsX6_inflow := goodIn_r _ [75, 21, 14, 15, 7, 16, 76, 77, 78, 79, 23, 32, 33, 34, 35, 36, 37, 38, 140, 141, 142, 143, 144, 145, 146, 147, 148, 149, 150] (by decide +kernel) (by decide +kernel)
set_option maxRecDepth 20000 in
theorem gX6_does_X6_inflow : GoodIn wsX6_does (wsV RX6 164 RX6 yX6_inflow wsX6_inflow) := goodIn_app (goodIn_of _ (by decide +kernel)) ggX6_does_X6_inflow
set_option maxRecDepth 20000 in
theorem ggX6_does_X6_pass : GoodIn wsX6_does wsX6_pass := goodIn_r _ [83, 21, 23, 84, 67, 14, 15, 7, 16, 32, 33, 34, 35, 36, 37, 38, 85, 86, 87, 88, 89, 90, 91, 92, 93, 94, 95, 96, 48, 49, 50, 51, 43, 44, 45, 46, 47, 52, 53, 54, 55, 56, 57, 58, 59, 97, 98, 99, 100, 101, 102, 103, 104, 28, 29, 30, 31, 105, 106, 107, 108, 109, 110, 111, 112, 113, 114, 115, 116, 117, 118, 119, 120, 121, 122, 123, 68, 69, 70, 71, 124, 125, 126, 127, 128, 129, 130, 131, 132, 133, 134, 135, 140, 141, 142, 143, 144, 145, 146, 147, 148, 149, 150] (by decide +kernel) (by decide +kernel)
set_option maxRecDepth 20000 in
theorem gX6_does_X6_pass : GoodIn wsX6_does (wsV RX6 167 RX6 yX6_pass wsX6_pass) := goodIn_app (goodIn_of _ (by decide +kernel)) ggX6_does_X6_pass
set_option maxRecDepth 20000 in
theorem ggX6_does_X6_cancel : GoodIn wsX6_does wsX6_cancel := goodIn_r _ [139, 21, 22, 23, 24, 25, 26, 7, 27, 39, 40, 41, 42, 43, 44, 45, 46, 47, 32, 33, 34, 35, 36, 37, 38, 112, 113, 114, 115, 56, 57, 58, 59, 140, 141, 142, 143, 144, 145, 146, 147, 148, 149, 150] (by decide +kernel) (by decide +kernel)
set_option maxRecDepth 20000 in
theorem gX6_does_X6_cancel : GoodIn wsX6_does (wsV RX6 170 RX6 yX6_cancel wsX6_cancel) := goodIn_app (goodIn_of _ (by decide +kernel)) ggX6_does_X6_cancel
theorem dX6_does_0 : decode cX6_does 0 = .ok (.aload_n 0, 1) := by decide +kernel
theorem dX6_does_1 : decode cX6_does 1 = .ok (.getfield 22, 3) := by decide +kernel
theorem dX6_does_4 : decode cX6_does 4 = .ok (.aload_n 0, 1) := by decide +kernel
theorem dX6_does_5 : decode cX6_does 5 = .ok (.getfield 146, 3) := by decide +kernel
theorem dX6_does_8 : decode cX6_does 8 = .ok (.iaload, 1) := by decide +kernel
theorem dX6_does_9 : decode cX6_does 9 = .ok (.istore_n 1, 1) := by decide +kernel
theorem dX6_does_10 : decode cX6_does 10 = .ok (.aload_n 0, 1) := by decide +kernel
theorem dX6_does_11 : decode cX6_does 11 = .ok (.dup, 1) := by decide +kernel
theorem dX6_does_12 : decode cX6_does 12 = .ok (.getfield 146, 3) := by decide +kernel
theorem dX6_does_15 : decode cX6_does 15 = .ok (.iconst 1, 1) := by decide +kernel
theorem dX6_does_16 : decode cX6_does 16 = .ok (.iadd, 1) := by decide +kernel
theorem dX6_does_17 : decode cX6_does 17 = .ok (.putfield 146, 3) := by decide +kernel
theorem dX6_does_20 : decode cX6_does 20 = .ok (.iload_n 1, 1) := by decide +kernel
theorem dX6_does_21 : decode cX6_does 21 = .ok (.bipush 111, 2) := by decide +kernel
theorem dX6_does_23 : decode cX6_does 23 = .ok (.if_icmp .eq 9, 3) := by decide +kernel
theorem dX6_does_26 : decode cX6_does 26 = .ok (.iload_n 1, 1) := by decide +kernel
theorem dX6_does_27 : decode cX6_does 27 = .ok (.bipush 119, 2) := by decide +kernel
theorem dX6_does_29 : decode cX6_does 29 = .ok (.if_icmp .ne 7, 3) := by decide +kernel
theorem dX6_does_32 : decode cX6_does 32 = .ok (.iconst 2, 1) := by decide +kernel
theorem dX6_does_33 : decode cX6_does 33 = .ok (.goto 26, 3) := by decide +kernel
theorem dX6_does_36 : decode cX6_does 36 = .ok (.iload_n 1, 1) := by decide +kernel
theorem dX6_does_37 : decode cX6_does 37 = .ok (.bipush 105, 2) := by decide +kernel
theorem dX6_does_39 : decode cX6_does 39 = .ok (.if_icmp .eq 15, 3) := by decide +kernel
theorem dX6_does_42 : decode cX6_does 42 = .ok (.iload_n 1, 1) := by decide +kernel
theorem dX6_does_43 : decode cX6_does 43 = .ok (.bipush 112, 2) := by decide +kernel
theorem dX6_does_45 : decode cX6_does 45 = .ok (.if_icmp .eq 9, 3) := by decide +kernel
theorem dX6_does_48 : decode cX6_does 48 = .ok (.iload_n 1, 1) := by decide +kernel
theorem dX6_does_49 : decode cX6_does 49 = .ok (.bipush 120, 2) := by decide +kernel
theorem dX6_does_51 : decode cX6_does 51 = .ok (.if_icmp .ne 7, 3) := by decide +kernel
theorem dX6_does_54 : decode cX6_does 54 = .ok (.iconst 1, 1) := by decide +kernel
theorem dX6_does_55 : decode cX6_does 55 = .ok (.goto 4, 3) := by decide +kernel
theorem dX6_does_58 : decode cX6_does 58 = .ok (.iconst 0, 1) := by decide +kernel
theorem dX6_does_59 : decode cX6_does 59 = .ok (.istore_n 2, 1) := by decide +kernel
theorem dX6_does_60 : decode cX6_does 60 = .ok (.iload_n 2, 1) := by decide +kernel
theorem dX6_does_61 : decode cX6_does 61 = .ok (.ifCond .le 7, 3) := by decide +kernel
theorem dX6_does_64 : decode cX6_does 64 = .ok (.iconst 1, 1) := by decide +kernel
theorem dX6_does_65 : decode cX6_does 65 = .ok (.goto 4, 3) := by decide +kernel
theorem dX6_does_68 : decode cX6_does 68 = .ok (.iconst 0, 1) := by decide +kernel
theorem dX6_does_69 : decode cX6_does 69 = .ok (.istore_n 3, 1) := by decide +kernel
theorem dX6_does_70 : decode cX6_does 70 = .ok (.iconst 0, 1) := by decide +kernel
theorem dX6_does_71 : decode cX6_does 71 = .ok (.istore 4, 2) := by decide +kernel
theorem dX6_does_73 : decode cX6_does 73 = .ok (.iload 4, 2) := by decide +kernel
theorem dX6_does_75 : decode cX6_does 75 = .ok (.iload_n 2, 1) := by decide +kernel
theorem dX6_does_76 : decode cX6_does 76 = .ok (.if_icmp .ge 35, 3) := by decide +kernel
theorem dX6_does_79 : decode cX6_does 79 = .ok (.iload_n 3, 1) := by decide +kernel
theorem dX6_does_80 : decode cX6_does 80 = .ok (.ifCond .eq 31, 3) := by decide +kernel
theorem dX6_does_83 : decode cX6_does 83 = .ok (.aload_n 0, 1) := by decide +kernel
theorem dX6_does_84 : decode cX6_does 84 = .ok (.iload 4, 2) := by decide +kernel
theorem dX6_does_86 : decode cX6_does 86 = .ok (.iload 4, 2) := by decide +kernel
theorem dX6_does_88 : decode cX6_does 88 = .ok (.iload_n 2, 1) := by decide +kernel
theorem dX6_does_89 : decode cX6_does 89 = .ok (.iconst 1, 1) := by decide +kernel
theorem dX6_does_90 : decode cX6_does 90 = .ok (.isub, 1) := by decide +kernel
theorem dX6_does_91 : decode cX6_does 91 = .ok (.if_icmp .ne 8, 3) := by decide +kernel
theorem dX6_does_94 : decode cX6_does 94 = .ok (.bipush 59, 2) := by decide +kernel
theorem dX6_does_96 : decode cX6_does 96 = .ok (.goto 5, 3) := by decide +kernel
theorem dX6_does_99 : decode cX6_does 99 = .ok (.bipush 44, 2) := by decide +kernel
theorem dX6_does_101 : decode cX6_does 101 = .ok (.invokevirtual 152, 3) := by decide +kernel
theorem dX6_does_104 : decode cX6_does 104 = .ok (.istore_n 3, 1) := by decide +kernel
theorem dX6_does_105 : decode cX6_does 105 = .ok (.iinc 4 1, 3) := by decide +kernel
theorem dX6_does_108 : decode cX6_does 108 = .ok (.goto (-35), 3) := by decide +kernel
theorem dX6_does_111 : decode cX6_does 111 = .ok (.iload_n 3, 1) := by decide +kernel
theorem dX6_does_112 : decode cX6_does 112 = .ok (.ifCond .ne 5, 3) := by decide +kernel
theorem dX6_does_115 : decode cX6_does 115 = .ok (.iconst 1, 1) := by decide +kernel
theorem dX6_does_116 : decode cX6_does 116 = .ok (.ireturn, 1) := by decide +kernel
theorem dX6_does_117 : decode cX6_does 117 = .ok (.iload_n 1, 1) := by decide +kernel
theorem dX6_does_118 : decode cX6_does 118 = .ok (.lookupswitch 110 #[(105, 82), (111, 42), (112, 96), (119, 62)], 42) := by decide +kernel
theorem dX6_does_160 : decode cX6_does 160 = .ok (.aload_n 0, 1) := by decide +kernel
theorem dX6_does_161 : decode cX6_does 161 = .ok (.aload_n 0, 1) := by decide +kernel
theorem dX6_does_162 : decode cX6_does 162 = .ok (.getfield 25, 3) := by decide +kernel
theorem dX6_does_165 : decode cX6_does 165 = .ok (.iconst 0, 1) := by decide +kernel
theorem dX6_does_166 : decode cX6_does 166 = .ok (.iaload, 1) := by decide +kernel
theorem dX6_does_167 : decode cX6_does 167 = .ok (.aload_n 0, 1) := by decide +kernel
theorem dX6_does_168 : decode cX6_does 168 = .ok (.getfield 25, 3) := by decide +kernel
theorem dX6_does_171 : decode cX6_does 171 = .ok (.iconst 1, 1) := by decide +kernel
theorem dX6_does_172 : decode cX6_does 172 = .ok (.iaload, 1) := by decide +kernel
theorem dX6_does_173 : decode cX6_does 173 = .ok (.invokevirtual 155, 3) := by decide +kernel
theorem dX6_does_176 : decode cX6_does 176 = .ok (.invokestatic 158, 3) := by decide +kernel
theorem dX6_does_179 : decode cX6_does 179 = .ok (.ireturn, 1) := by decide +kernel
theorem dX6_does_180 : decode cX6_does 180 = .ok (.aload_n 0, 1) := by decide +kernel
theorem dX6_does_181 : decode cX6_does 181 = .ok (.aload_n 0, 1) := by decide +kernel
theorem dX6_does_182 : decode cX6_does 182 = .ok (.getfield 25, 3) := by decide +kernel
theorem dX6_does_185 : decode cX6_does 185 = .ok (.iconst 0, 1) := by decide +kernel
theorem dX6_does_186 : decode cX6_does 186 = .ok (.iaload, 1) := by decide +kernel
theorem dX6_does_187 : decode cX6_does 187 = .ok (.aload_n 0, 1) := by decide +kernel
theorem dX6_does_188 : decode cX6_does 188 = .ok (.getfield 25, 3) := by decide +kernel
theorem dX6_does_191 : decode cX6_does 191 = .ok (.iconst 1, 1) := by decide +kernel
theorem dX6_does_192 : decode cX6_does 192 = .ok (.iaload, 1) := by decide +kernel
theorem dX6_does_193 : decode cX6_does 193 = .ok (.invokevirtual 161, 3) := by decide +kernel
theorem dX6_does_196 : decode cX6_does 196 = .ok (.invokestatic 158, 3) := by decide +kernel
theorem dX6_does_199 : decode cX6_does 199 = .ok (.ireturn, 1) := by decide +kernel
theorem dX6_does_200 : decode cX6_does 200 = .ok (.aload_n 0, 1) := by decide +kernel
theorem dX6_does_201 : decode cX6_does 201 = .ok (.aload_n 0, 1) := by decide +kernel
theorem dX6_does_202 : decode cX6_does 202 = .ok (.getfield 25, 3) := by decide +kernel
theorem dX6_does_205 : decode cX6_does 205 = .ok (.iconst 0, 1) := by decide +kernel
theorem dX6_does_206 : decode cX6_does 206 = .ok (.iaload, 1) := by decide +kernel
theorem dX6_does_207 : decode cX6_does 207 = .ok (.invokevirtual 164, 3) := by decide +kernel
theorem dX6_does_210 : decode cX6_does 210 = .ok (.invokestatic 158, 3) := by decide +kernel
theorem dX6_does_213 : decode cX6_does 213 = .ok (.ireturn, 1) := by decide +kernel
theorem dX6_does_214 : decode cX6_does 214 = .ok (.aload_n 0, 1) := by decide +kernel
theorem dX6_does_215 : decode cX6_does 215 = .ok (.aload_n 0, 1) := by decide +kernel
theorem dX6_does_216 : decode cX6_does 216 = .ok (.getfield 25, 3) := by decide +kernel
theorem dX6_does_219 : decode cX6_does 219 = .ok (.iconst 0, 1) := by decide +kernel
theorem dX6_does_220 : decode cX6_does 220 = .ok (.iaload, 1) := by decide +kernel
theorem dX6_does_221 : decode cX6_does 221 = .ok (.invokevirtual 167, 3) := by decide +kernel
theorem dX6_does_224 : decode cX6_does 224 = .ok (.invokestatic 158, 3) := by decide +kernel
theorem dX6_does_227 : decode cX6_does 227 = .ok (.ireturn, 1) := by decide +kernel
theorem dX6_does_228 : decode cX6_does 228 = .ok (.aload_n 0, 1) := by decide +kernel
theorem dX6_does_229 : decode cX6_does 229 = .ok (.aload_n 0, 1) := by decide +kernel
theorem dX6_does_230 : decode cX6_does 230 = .ok (.getfield 25, 3) := by decide +kernel
theorem dX6_does_233 : decode cX6_does 233 = .ok (.iconst 0, 1) := by decide +kernel
theorem dX6_does_234 : decode cX6_does 234 = .ok (.iaload, 1) := by decide +kernel
theorem dX6_does_235 : decode cX6_does 235 = .ok (.invokevirtual 170, 3) := by decide +kernel
theorem dX6_does_238 : decode cX6_does 238 = .ok (.invokestatic 158, 3) := by decide +kernel
theorem dX6_does_241 : decode cX6_does 241 = .ok (.ireturn, 1) := by decide +kernel
set_option maxRecDepth 20000 in
theorem ggX6_plays_X6_does : GoodIn wsX6_plays wsX6_does := goodIn_r _ [10, 11, 2, 12, 13, 14, 15, 9, 16, 17, 18, 19, 20, 4, 21, 22, 23, 24, 25, 26, 27, 28, 29, 30, 31, 32, 33, 34, 35, 36, 37, 38, 39, 40, 41, 42, 1, 43, 44, 45, 46, 47, 48, 49, 50, 51, 52, 5, 53, 54, 55, 56, 57, 58, 59, 60, 61, 62, 63, 64, 65, 66, 67, 68, 69, 70, 71, 72, 73, 74, 75, 76, 77, 78, 79, 80, 81, 82, 83, 84, 85, 86, 87, 88, 89, 90, 91, 92, 93, 94, 95, 96, 97, 98, 99, 100, 101, 102, 103, 104, 105, 106, 107, 108, 109, 110, 111, 112, 113, 114, 115, 116, 117, 118, 119, 120, 121, 122, 123, 124, 125, 126, 127, 128, 129, 130, 131, 132, 133, 134, 135, 136, 137, 138, 139, 140, 141, 142, 143, 144, 145, 146, 147, 148, 149, 150, 151, 152, 153, 154, 155] (by decide +kernel) (by decide +kernel)
set_option maxRecDepth 20000 in
theorem gX6_plays_X6_does : GoodIn wsX6_plays (wsV RX6 176 RX6 yX6_does wsX6_does) := goodIn_app (goodIn_of _ (by decide +kernel)) ggX6_plays_X6_does
theorem dX6_plays_0 : decode cX6_plays 0 = .ok (.aload_n 0, 1) := by decide +kernel
theorem dX6_plays_1 : decode cX6_plays 1 = .ok (.iconst 1, 1) := by decide +kernel
theorem dX6_plays_2 : decode cX6_plays 2 = .ok (.putfield 28, 3) := by decide +kernel
theorem dX6_plays_5 : decode cX6_plays 5 = .ok (.aload_n 0, 1) := by decide +kernel
theorem dX6_plays_6 : decode cX6_plays 6 = .ok (.iconst 0, 1) := by decide +kernel
theorem dX6_plays_7 : decode cX6_plays 7 = .ok (.putfield 146, 3) := by decide +kernel
theorem dX6_plays_10 : decode cX6_plays 10 = .ok (.aload_n 0, 1) := by decide +kernel
theorem dX6_plays_11 : decode cX6_plays 11 = .ok (.iconst 0, 1) := by decide +kernel
theorem dX6_plays_12 : decode cX6_plays 12 = .ok (.putfield 173, 3) := by decide +kernel
theorem dX6_plays_15 : decode cX6_plays 15 = .ok (.iconst 0, 1) := by decide +kernel
theorem dX6_plays_16 : decode cX6_plays 16 = .ok (.istore_n 1, 1) := by decide +kernel
theorem dX6_plays_17 : decode cX6_plays 17 = .ok (.aload_n 0, 1) := by decide +kernel
theorem dX6_plays_18 : decode cX6_plays 18 = .ok (.getfield 146, 3) := by decide +kernel
theorem dX6_plays_21 : decode cX6_plays 21 = .ok (.aload_n 0, 1) := by decide +kernel
theorem dX6_plays_22 : decode cX6_plays 22 = .ok (.getfield 143, 3) := by decide +kernel
theorem dX6_plays_25 : decode cX6_plays 25 = .ok (.if_icmp .ge 26, 3) := by decide +kernel
theorem dX6_plays_28 : decode cX6_plays 28 = .ok (.aload_n 0, 1) := by decide +kernel
theorem dX6_plays_29 : decode cX6_plays 29 = .ok (.getfield 173, 3) := by decide +kernel
theorem dX6_plays_32 : decode cX6_plays 32 = .ok (.ifCond .ne 19, 3) := by decide +kernel
theorem dX6_plays_35 : decode cX6_plays 35 = .ok (.aload_n 0, 1) := by decide +kernel
theorem dX6_plays_36 : decode cX6_plays 36 = .ok (.getfield 146, 3) := by decide +kernel
theorem dX6_plays_39 : decode cX6_plays 39 = .ok (.istore_n 1, 1) := by decide +kernel
theorem dX6_plays_40 : decode cX6_plays 40 = .ok (.aload_n 0, 1) := by decide +kernel
theorem dX6_plays_41 : decode cX6_plays 41 = .ok (.aload_n 0, 1) := by decide +kernel
theorem dX6_plays_42 : decode cX6_plays 42 = .ok (.invokevirtual 176, 3) := by decide +kernel
theorem dX6_plays_45 : decode cX6_plays 45 = .ok (.putfield 173, 3) := by decide +kernel
theorem dX6_plays_48 : decode cX6_plays 48 = .ok (.goto (-31), 3) := by decide +kernel
theorem dX6_plays_51 : decode cX6_plays 51 = .ok (.aload_n 0, 1) := by decide +kernel
theorem dX6_plays_52 : decode cX6_plays 52 = .ok (.iconst 0, 1) := by decide +kernel
theorem dX6_plays_53 : decode cX6_plays 53 = .ok (.putfield 28, 3) := by decide +kernel
theorem dX6_plays_56 : decode cX6_plays 56 = .ok (.aload_n 0, 1) := by decide +kernel
theorem dX6_plays_57 : decode cX6_plays 57 = .ok (.getfield 173, 3) := by decide +kernel
theorem dX6_plays_60 : decode cX6_plays 60 = .ok (.ifCond .ne 8, 3) := by decide +kernel
theorem dX6_plays_63 : decode cX6_plays 63 = .ok (.ldc 40, 2) := by decide +kernel
theorem dX6_plays_65 : decode cX6_plays 65 = .ok (.goto 4, 3) := by decide +kernel
theorem dX6_plays_68 : decode cX6_plays 68 = .ok (.iload_n 1, 1) := by decide +kernel
theorem dX6_plays_69 : decode cX6_plays 69 = .ok (.ireturn, 1) := by decide +kernel
set_option maxRecDepth 20000 in
theorem ggX6_fault_X6_in : GoodIn wsX6_fault wsX6_in := goodIn_r _ [9] (by decide +kernel) (by decide +kernel)
set_option maxRecDepth 20000 in
theorem gX6_fault_X6_in : GoodIn wsX6_fault (va_wsS RX6 99 yX6_in wsX6_in) := goodIn_app (goodIn_of _ (by decide +kernel)) ggX6_fault_X6_in
set_option maxRecDepth 20000 in
theorem ggX6_fault_X6_copies : GoodIn wsX6_fault wsX6_copies := goodIn_r _ [12] (by decide +kernel) (by decide +kernel)
set_option maxRecDepth 20000 in
theorem gX6_fault_X6_copies : GoodIn wsX6_fault (va_wsS RX6 123 yX6_copies wsX6_copies) := goodIn_app (goodIn_of _ (by decide +kernel)) ggX6_fault_X6_copies
set_option maxRecDepth 20000 in
theorem ggX6_fault_X6_plays : GoodIn wsX6_fault wsX6_plays := goodIn_r _ [16, 17, 18, 5, 19, 4, 20, 21, 22, 8, 23, 24, 25, 26, 27, 28, 29, 30, 31, 32, 33, 6, 7, 9, 34, 35, 36, 37, 1, 38, 2, 39, 40, 41, 42, 43, 44, 45, 46, 47, 48, 49, 50, 51, 52, 53, 54, 55, 56, 57, 58, 59, 60, 61, 62, 63, 64, 65, 66, 67, 68, 69, 70, 71, 72, 73, 74, 75, 76, 77, 78, 79, 80, 81, 82, 83, 84, 85, 86, 87, 88, 89, 90, 91, 92, 93, 94, 95, 96, 97, 98, 99, 100, 101, 102, 103, 104, 105, 106, 107, 108, 109, 110, 111, 112, 113, 114, 115, 116, 117, 118, 119, 120, 121, 122, 123, 124, 125, 126, 127, 128, 129, 130, 131, 132, 133, 134, 135, 136, 137, 138, 139, 140, 141, 142, 143, 144, 145, 146, 147, 148, 149, 150, 151, 152, 153, 154, 155, 156, 157, 158, 159, 160, 161, 162, 163] (by decide +kernel) (by decide +kernel)
set_option maxRecDepth 20000 in
theorem gX6_fault_X6_plays : GoodIn wsX6_fault (wsV RX6 179 RX6 yX6_plays wsX6_plays) := goodIn_app (goodIn_of _ (by decide +kernel)) ggX6_fault_X6_plays
theorem dX6_fault_0 : decode cX6_fault 0 = .ok (.iload_n 1, 1) := by decide +kernel
theorem dX6_fault_1 : decode cX6_fault 1 = .ok (.iconst 0, 1) := by decide +kernel
theorem dX6_fault_2 : decode cX6_fault 2 = .ok (.iconst 1, 1) := by decide +kernel
theorem dX6_fault_3 : decode cX6_fault 3 = .ok (.invokestatic 99, 3) := by decide +kernel
theorem dX6_fault_6 : decode cX6_fault 6 = .ok (.ifCond .ne 6, 3) := by decide +kernel
theorem dX6_fault_9 : decode cX6_fault 9 = .ok (.ldc 103, 2) := by decide +kernel
theorem dX6_fault_11 : decode cX6_fault 11 = .ok (.ireturn, 1) := by decide +kernel
theorem dX6_fault_12 : decode cX6_fault 12 = .ok (.aload_n 0, 1) := by decide +kernel
theorem dX6_fault_13 : decode cX6_fault 13 = .ok (.getfield 7, 3) := by decide +kernel
theorem dX6_fault_16 : decode cX6_fault 16 = .ok (.aload_n 0, 1) := by decide +kernel
theorem dX6_fault_17 : decode cX6_fault 17 = .ok (.getfield 16, 3) := by decide +kernel
theorem dX6_fault_20 : decode cX6_fault 20 = .ok (.invokestatic 123, 3) := by decide +kernel
theorem dX6_fault_23 : decode cX6_fault 23 = .ok (.aload_n 0, 1) := by decide +kernel
theorem dX6_fault_24 : decode cX6_fault 24 = .ok (.invokevirtual 179, 3) := by decide +kernel
theorem dX6_fault_27 : decode cX6_fault 27 = .ok (.istore_n 2, 1) := by decide +kernel
theorem dX6_fault_28 : decode cX6_fault 28 = .ok (.aload_n 0, 1) := by decide +kernel
theorem dX6_fault_29 : decode cX6_fault 29 = .ok (.getfield 16, 3) := by decide +kernel
theorem dX6_fault_32 : decode cX6_fault 32 = .ok (.aload_n 0, 1) := by decide +kernel
theorem dX6_fault_33 : decode cX6_fault 33 = .ok (.getfield 7, 3) := by decide +kernel
theorem dX6_fault_36 : decode cX6_fault 36 = .ok (.invokestatic 123, 3) := by decide +kernel
theorem dX6_fault_39 : decode cX6_fault 39 = .ok (.iload_n 2, 1) := by decide +kernel
theorem dX6_fault_40 : decode cX6_fault 40 = .ok (.ldc 40, 2) := by decide +kernel
theorem dX6_fault_42 : decode cX6_fault 42 = .ok (.if_icmp .eq 7, 3) := by decide +kernel
theorem dX6_fault_45 : decode cX6_fault 45 = .ok (.iload_n 1, 1) := by decide +kernel
theorem dX6_fault_46 : decode cX6_fault 46 = .ok (.ifCond .ne 7, 3) := by decide +kernel
theorem dX6_fault_49 : decode cX6_fault 49 = .ok (.iload_n 2, 1) := by decide +kernel
theorem dX6_fault_50 : decode cX6_fault 50 = .ok (.goto 7, 3) := by decide +kernel
theorem dX6_fault_53 : decode cX6_fault 53 = .ok (.aload_n 0, 1) := by decide +kernel
theorem dX6_fault_54 : decode cX6_fault 54 = .ok (.getfield 173, 3) := by decide +kernel
theorem dX6_fault_57 : decode cX6_fault 57 = .ok (.ireturn, 1) := by decide +kernel
set_option maxRecDepth 20000 in
theorem ggX6_play_X6_copies : GoodIn wsX6_play wsX6_copies := goodIn_r _ [8] (by decide +kernel) (by decide +kernel)
set_option maxRecDepth 20000 in
theorem gX6_play_X6_copies : GoodIn wsX6_play (va_wsS RX6 123 yX6_copies wsX6_copies) := goodIn_app (goodIn_of _ (by decide +kernel)) ggX6_play_X6_copies
set_option maxRecDepth 20000 in
theorem ggX6_play_X6_plays : GoodIn wsX6_play wsX6_plays := goodIn_r _ [12, 13, 14, 15, 16, 3, 17, 18, 19, 7, 20, 21, 22, 23, 24, 25, 26, 27, 28, 29, 30, 31, 32, 33, 34, 35, 36, 37, 38, 4, 1, 39, 40, 41, 42, 43, 44, 45, 46, 47, 48, 49, 50, 51, 52, 53, 54, 55, 56, 57, 58, 59, 60, 61, 62, 63, 64, 65, 66, 67, 68, 69, 70, 71, 72, 73, 74, 75, 76, 77, 78, 79, 80, 81, 82, 83, 84, 85, 86, 87, 88, 89, 90, 91, 92, 93, 94, 95, 96, 97, 98, 99, 100, 101, 102, 103, 104, 105, 106, 107, 108, 109, 110, 111, 112, 113, 114, 115, 116, 117, 118, 119, 120, 121, 122, 123, 124, 125, 126, 127, 128, 129, 130, 131, 132, 133, 134, 135, 136, 137, 138, 139, 140, 141, 142, 143, 144, 145, 146, 147, 148, 149, 150, 151, 152, 153, 154, 155, 156, 157, 158, 159, 160, 161, 162, 163] (by decide +kernel) (by decide +kernel)
set_option maxRecDepth 20000 in
theorem gX6_play_X6_plays : GoodIn wsX6_play (wsV RX6 179 RX6 yX6_plays wsX6_plays) := goodIn_app (goodIn_of _ (by decide +kernel)) ggX6_play_X6_plays
set_option maxRecDepth 20000 in
theorem ggX6_play_X6_changes : GoodIn wsX6_play wsX6_changes := goodIn_r _ [50, 13, 51, 52, 1, 153, 154, 155, 156, 157, 158, 159, 160, 161, 162, 163] (by decide +kernel) (by decide +kernel)
set_option maxRecDepth 20000 in
theorem gX6_play_X6_changes : GoodIn wsX6_play (wsV RX6 105 RX6 yX6_changes wsX6_changes) := goodIn_app (goodIn_of _ (by decide +kernel)) ggX6_play_X6_changes
theorem dX6_play_0 : decode cX6_play 0 = .ok (.aload_n 0, 1) := by decide +kernel
theorem dX6_play_1 : decode cX6_play 1 = .ok (.getfield 7, 3) := by decide +kernel
theorem dX6_play_4 : decode cX6_play 4 = .ok (.aload_n 0, 1) := by decide +kernel
theorem dX6_play_5 : decode cX6_play 5 = .ok (.getfield 16, 3) := by decide +kernel
theorem dX6_play_8 : decode cX6_play 8 = .ok (.invokestatic 123, 3) := by decide +kernel
theorem dX6_play_11 : decode cX6_play 11 = .ok (.aload_n 0, 1) := by decide +kernel
theorem dX6_play_12 : decode cX6_play 12 = .ok (.invokevirtual 179, 3) := by decide +kernel
theorem dX6_play_15 : decode cX6_play 15 = .ok (.istore_n 1, 1) := by decide +kernel
theorem dX6_play_16 : decode cX6_play 16 = .ok (.aload_n 0, 1) := by decide +kernel
theorem dX6_play_17 : decode cX6_play 17 = .ok (.getfield 16, 3) := by decide +kernel
theorem dX6_play_20 : decode cX6_play 20 = .ok (.aload_n 0, 1) := by decide +kernel
theorem dX6_play_21 : decode cX6_play 21 = .ok (.getfield 7, 3) := by decide +kernel
theorem dX6_play_24 : decode cX6_play 24 = .ok (.invokestatic 123, 3) := by decide +kernel
theorem dX6_play_27 : decode cX6_play 27 = .ok (.iload_n 1, 1) := by decide +kernel
theorem dX6_play_28 : decode cX6_play 28 = .ok (.ldc 40, 2) := by decide +kernel
theorem dX6_play_30 : decode cX6_play 30 = .ok (.if_icmp .eq 6, 3) := by decide +kernel
theorem dX6_play_33 : decode cX6_play 33 = .ok (.ldc 112, 2) := by decide +kernel
theorem dX6_play_35 : decode cX6_play 35 = .ok (.ireturn, 1) := by decide +kernel
theorem dX6_play_36 : decode cX6_play 36 = .ok (.aload_n 0, 1) := by decide +kernel
theorem dX6_play_37 : decode cX6_play 37 = .ok (.invokevirtual 105, 3) := by decide +kernel
theorem dX6_play_40 : decode cX6_play 40 = .ok (.aload_n 0, 1) := by decide +kernel
theorem dX6_play_41 : decode cX6_play 41 = .ok (.invokevirtual 179, 3) := by decide +kernel
theorem dX6_play_44 : decode cX6_play 44 = .ok (.ldc 40, 2) := by decide +kernel
theorem dX6_play_46 : decode cX6_play 46 = .ok (.if_icmp .ne 12, 3) := by decide +kernel
theorem dX6_play_49 : decode cX6_play 49 = .ok (.aload_n 0, 1) := by decide +kernel
theorem dX6_play_50 : decode cX6_play 50 = .ok (.getfield 7, 3) := by decide +kernel
theorem dX6_play_53 : decode cX6_play 53 = .ok (.iconst 4, 1) := by decide +kernel
theorem dX6_play_54 : decode cX6_play 54 = .ok (.iaload, 1) := by decide +kernel
theorem dX6_play_55 : decode cX6_play 55 = .ok (.goto 5, 3) := by decide +kernel
theorem dX6_play_58 : decode cX6_play 58 = .ok (.ldc 40, 2) := by decide +kernel
theorem dX6_play_60 : decode cX6_play 60 = .ok (.ireturn, 1) := by decide +kernel
