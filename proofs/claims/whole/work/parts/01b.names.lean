theorem inJ9 : ∀ w ∈ wsJ90, w ∈ lw_tbl := by decide +kernel
theorem inJ10 : ∀ w ∈ wsJ100, w ∈ lw_tbl := by decide +kernel
set_option maxRecDepth 20000 in
theorem ggX0_init_X1_init : GoodIn wsX0_init wsX1_init := goodIn_r _ [18, 19, 2, 3, 13, 20, 21, 22, 23, 24, 35, 36, 37, 38, 39, 40] (by decide +kernel) (by decide +kernel)
set_option maxRecDepth 20000 in
theorem gX0_init_X1_init_n11 : GoodIn wsX0_init (wsX1_init) := ggX0_init_X1_init
set_option maxRecDepth 20000 in
theorem ggX0_init_X4_init : GoodIn wsX0_init wsX4_init := goodIn_r _ [26, 27, 2, 3, 13, 28, 29, 30, 31, 32, 33, 34, 59, 60, 61, 62] (by decide +kernel) (by decide +kernel)
set_option maxRecDepth 20000 in
theorem gX0_init_X4_init_n20 : GoodIn wsX0_init (wsX4_init) := ggX0_init_X4_init
theorem dX0_init_0 : decode cX0_init 0 = .ok (.aload_n 0, 1) := by decide +kernel
theorem dX0_init_1 : decode cX0_init 1 = .ok (.invokespecial 3, 3) := by decide +kernel
theorem dX0_init_4 : decode cX0_init 4 = .ok (.aload_n 0, 1) := by decide +kernel
theorem dX0_init_5 : decode cX0_init 5 = .ok (.new 9, 3) := by decide +kernel
theorem dX0_init_8 : decode cX0_init 8 = .ok (.dup, 1) := by decide +kernel
theorem dX0_init_9 : decode cX0_init 9 = .ok (.invokespecial 11, 3) := by decide +kernel
theorem dX0_init_12 : decode cX0_init 12 = .ok (.putfield 12, 3) := by decide +kernel
theorem dX0_init_15 : decode cX0_init 15 = .ok (.aload_n 0, 1) := by decide +kernel
theorem dX0_init_16 : decode cX0_init 16 = .ok (.new 18, 3) := by decide +kernel
theorem dX0_init_19 : decode cX0_init 19 = .ok (.dup, 1) := by decide +kernel
theorem dX0_init_20 : decode cX0_init 20 = .ok (.bipush 8, 2) := by decide +kernel
theorem dX0_init_22 : decode cX0_init 22 = .ok (.invokespecial 20, 3) := by decide +kernel
theorem dX0_init_25 : decode cX0_init 25 = .ok (.putfield 23, 3) := by decide +kernel
theorem dX0_init_28 : decode cX0_init 28 = .ok (.aload_n 0, 1) := by decide +kernel
theorem dX0_init_29 : decode cX0_init 29 = .ok (.new 18, 3) := by decide +kernel
theorem dX0_init_32 : decode cX0_init 32 = .ok (.dup, 1) := by decide +kernel
theorem dX0_init_33 : decode cX0_init 33 = .ok (.iconst 4, 1) := by decide +kernel
theorem dX0_init_34 : decode cX0_init 34 = .ok (.invokespecial 20, 3) := by decide +kernel
theorem dX0_init_37 : decode cX0_init 37 = .ok (.putfield 27, 3) := by decide +kernel
theorem dX0_init_40 : decode cX0_init 40 = .ok (.aload_n 0, 1) := by decide +kernel
theorem dX0_init_41 : decode cX0_init 41 = .ok (.iconst 3, 1) := by decide +kernel
theorem dX0_init_42 : decode cX0_init 42 = .ok (.newarray .int, 2) := by decide +kernel
theorem dX0_init_44 : decode cX0_init 44 = .ok (.putfield 30, 3) := by decide +kernel
theorem dX0_init_47 : decode cX0_init 47 = .ok (.aload_n 0, 1) := by decide +kernel
theorem dX0_init_48 : decode cX0_init 48 = .ok (.sipush 2000, 3) := by decide +kernel
theorem dX0_init_51 : decode cX0_init 51 = .ok (.putfield 34, 3) := by decide +kernel
theorem dX0_init_54 : decode cX0_init 54 = .ok (.aload_n 0, 1) := by decide +kernel
theorem dX0_init_55 : decode cX0_init 55 = .ok (.iconst (-1), 1) := by decide +kernel
theorem dX0_init_56 : decode cX0_init 56 = .ok (.putfield 38, 3) := by decide +kernel
theorem dX0_init_59 : decode cX0_init 59 = .ok (.aload_n 0, 1) := by decide +kernel
theorem dX0_init_60 : decode cX0_init 60 = .ok (.getfield 30, 3) := by decide +kernel
theorem dX0_init_63 : decode cX0_init 63 = .ok (.iconst 0, 1) := by decide +kernel
theorem dX0_init_64 : decode cX0_init 64 = .ok (.sipush 8000, 3) := by decide +kernel
theorem dX0_init_67 : decode cX0_init 67 = .ok (.iastore, 1) := by decide +kernel
theorem dX0_init_68 : decode cX0_init 68 = .ok (.aload_n 0, 1) := by decide +kernel
theorem dX0_init_69 : decode cX0_init 69 = .ok (.getfield 30, 3) := by decide +kernel
theorem dX0_init_72 : decode cX0_init 72 = .ok (.iconst 1, 1) := by decide +kernel
theorem dX0_init_73 : decode cX0_init 73 = .ok (.sipush 6000, 3) := by decide +kernel
theorem dX0_init_76 : decode cX0_init 76 = .ok (.iastore, 1) := by decide +kernel
theorem dX0_init_77 : decode cX0_init 77 = .ok (.aload_n 0, 1) := by decide +kernel
theorem dX0_init_78 : decode cX0_init 78 = .ok (.getfield 30, 3) := by decide +kernel
theorem dX0_init_81 : decode cX0_init 81 = .ok (.iconst 2, 1) := by decide +kernel
theorem dX0_init_82 : decode cX0_init 82 = .ok (.iconst 0, 1) := by decide +kernel
theorem dX0_init_83 : decode cX0_init 83 = .ok (.iastore, 1) := by decide +kernel
theorem dX0_init_84 : decode cX0_init 84 = .ok (.return_, 1) := by decide +kernel
set_option maxRecDepth 20000 in
theorem ggX0_copyFrom_X1_copyFrom : GoodIn wsX0_copyFrom wsX1_copyFrom := goodIn_r _ [27, 28, 29, 30, 6, 7, 8, 31, 32, 33, 34, 62, 63, 64, 65, 66, 67] (by decide +kernel) (by decide +kernel)
set_option maxRecDepth 20000 in
theorem gX0_copyFrom_X1_copyFrom : GoodIn wsX0_copyFrom (wsV RX0 41 RX1 yX1_copyFrom wsX1_copyFrom) := goodIn_app (goodIn_of _ (by decide +kernel)) ggX0_copyFrom_X1_copyFrom
set_option maxRecDepth 20000 in
theorem ggX0_copyFrom_X4_copyFrom : GoodIn wsX0_copyFrom wsX4_copyFrom := goodIn_r _ [39, 40, 41, 42, 6, 7, 8, 43, 68, 69, 70, 71] (by decide +kernel) (by decide +kernel)
set_option maxRecDepth 20000 in
theorem gX0_copyFrom_X4_copyFrom : GoodIn wsX0_copyFrom (wsV RX0 45 RX4 yX4_copyFrom wsX4_copyFrom) := goodIn_app (goodIn_of _ (by decide +kernel)) ggX0_copyFrom_X4_copyFrom
theorem dX0_copyFrom_0 : decode cX0_copyFrom 0 = .ok (.aload_n 0, 1) := by decide +kernel
theorem dX0_copyFrom_1 : decode cX0_copyFrom 1 = .ok (.getfield 12, 3) := by decide +kernel
theorem dX0_copyFrom_4 : decode cX0_copyFrom 4 = .ok (.aload_n 1, 1) := by decide +kernel
theorem dX0_copyFrom_5 : decode cX0_copyFrom 5 = .ok (.getfield 12, 3) := by decide +kernel
theorem dX0_copyFrom_8 : decode cX0_copyFrom 8 = .ok (.invokevirtual 41, 3) := by decide +kernel
theorem dX0_copyFrom_11 : decode cX0_copyFrom 11 = .ok (.aload_n 0, 1) := by decide +kernel
theorem dX0_copyFrom_12 : decode cX0_copyFrom 12 = .ok (.getfield 23, 3) := by decide +kernel
theorem dX0_copyFrom_15 : decode cX0_copyFrom 15 = .ok (.aload_n 1, 1) := by decide +kernel
theorem dX0_copyFrom_16 : decode cX0_copyFrom 16 = .ok (.getfield 23, 3) := by decide +kernel
theorem dX0_copyFrom_19 : decode cX0_copyFrom 19 = .ok (.invokevirtual 45, 3) := by decide +kernel
theorem dX0_copyFrom_22 : decode cX0_copyFrom 22 = .ok (.aload_n 0, 1) := by decide +kernel
theorem dX0_copyFrom_23 : decode cX0_copyFrom 23 = .ok (.getfield 27, 3) := by decide +kernel
theorem dX0_copyFrom_26 : decode cX0_copyFrom 26 = .ok (.aload_n 1, 1) := by decide +kernel
theorem dX0_copyFrom_27 : decode cX0_copyFrom 27 = .ok (.getfield 27, 3) := by decide +kernel
theorem dX0_copyFrom_30 : decode cX0_copyFrom 30 = .ok (.invokevirtual 45, 3) := by decide +kernel
theorem dX0_copyFrom_33 : decode cX0_copyFrom 33 = .ok (.aload_n 1, 1) := by decide +kernel
theorem dX0_copyFrom_34 : decode cX0_copyFrom 34 = .ok (.getfield 30, 3) := by decide +kernel
theorem dX0_copyFrom_37 : decode cX0_copyFrom 37 = .ok (.iconst 0, 1) := by decide +kernel
theorem dX0_copyFrom_38 : decode cX0_copyFrom 38 = .ok (.aload_n 0, 1) := by decide +kernel
theorem dX0_copyFrom_39 : decode cX0_copyFrom 39 = .ok (.getfield 30, 3) := by decide +kernel
theorem dX0_copyFrom_42 : decode cX0_copyFrom 42 = .ok (.iconst 0, 1) := by decide +kernel
theorem dX0_copyFrom_43 : decode cX0_copyFrom 43 = .ok (.iconst 3, 1) := by decide +kernel
theorem dX0_copyFrom_44 : decode cX0_copyFrom 44 = .ok (.invokestatic 48, 3) := by decide +kernel
theorem dX0_copyFrom_47 : decode cX0_copyFrom 47 = .ok (.aload_n 0, 1) := by decide +kernel
theorem dX0_copyFrom_48 : decode cX0_copyFrom 48 = .ok (.aload_n 1, 1) := by decide +kernel
theorem dX0_copyFrom_49 : decode cX0_copyFrom 49 = .ok (.getfield 34, 3) := by decide +kernel
theorem dX0_copyFrom_52 : decode cX0_copyFrom 52 = .ok (.putfield 34, 3) := by decide +kernel
theorem dX0_copyFrom_55 : decode cX0_copyFrom 55 = .ok (.aload_n 0, 1) := by decide +kernel
theorem dX0_copyFrom_56 : decode cX0_copyFrom 56 = .ok (.aload_n 1, 1) := by decide +kernel
theorem dX0_copyFrom_57 : decode cX0_copyFrom 57 = .ok (.getfield 54, 3) := by decide +kernel
theorem dX0_copyFrom_60 : decode cX0_copyFrom 60 = .ok (.putfield 54, 3) := by decide +kernel
theorem dX0_copyFrom_63 : decode cX0_copyFrom 63 = .ok (.aload_n 0, 1) := by decide +kernel
theorem dX0_copyFrom_64 : decode cX0_copyFrom 64 = .ok (.aload_n 1, 1) := by decide +kernel
theorem dX0_copyFrom_65 : decode cX0_copyFrom 65 = .ok (.getfield 57, 3) := by decide +kernel
theorem dX0_copyFrom_68 : decode cX0_copyFrom 68 = .ok (.putfield 57, 3) := by decide +kernel
theorem dX0_copyFrom_71 : decode cX0_copyFrom 71 = .ok (.aload_n 0, 1) := by decide +kernel
theorem dX0_copyFrom_72 : decode cX0_copyFrom 72 = .ok (.aload_n 1, 1) := by decide +kernel
theorem dX0_copyFrom_73 : decode cX0_copyFrom 73 = .ok (.getfield 60, 3) := by decide +kernel
theorem dX0_copyFrom_76 : decode cX0_copyFrom 76 = .ok (.putfield 60, 3) := by decide +kernel
theorem dX0_copyFrom_79 : decode cX0_copyFrom 79 = .ok (.aload_n 0, 1) := by decide +kernel
theorem dX0_copyFrom_80 : decode cX0_copyFrom 80 = .ok (.aload_n 1, 1) := by decide +kernel
theorem dX0_copyFrom_81 : decode cX0_copyFrom 81 = .ok (.getfield 63, 3) := by decide +kernel
theorem dX0_copyFrom_84 : decode cX0_copyFrom 84 = .ok (.putfield 63, 3) := by decide +kernel
theorem dX0_copyFrom_87 : decode cX0_copyFrom 87 = .ok (.aload_n 0, 1) := by decide +kernel
theorem dX0_copyFrom_88 : decode cX0_copyFrom 88 = .ok (.aload_n 1, 1) := by decide +kernel
theorem dX0_copyFrom_89 : decode cX0_copyFrom 89 = .ok (.getfield 66, 3) := by decide +kernel
theorem dX0_copyFrom_92 : decode cX0_copyFrom 92 = .ok (.putfield 66, 3) := by decide +kernel
theorem dX0_copyFrom_95 : decode cX0_copyFrom 95 = .ok (.aload_n 0, 1) := by decide +kernel
theorem dX0_copyFrom_96 : decode cX0_copyFrom 96 = .ok (.aload_n 1, 1) := by decide +kernel
theorem dX0_copyFrom_97 : decode cX0_copyFrom 97 = .ok (.getfield 69, 3) := by decide +kernel
theorem dX0_copyFrom_100 : decode cX0_copyFrom 100 = .ok (.putfield 69, 3) := by decide +kernel
theorem dX0_copyFrom_103 : decode cX0_copyFrom 103 = .ok (.aload_n 0, 1) := by decide +kernel
theorem dX0_copyFrom_104 : decode cX0_copyFrom 104 = .ok (.aload_n 1, 1) := by decide +kernel
theorem dX0_copyFrom_105 : decode cX0_copyFrom 105 = .ok (.getfield 73, 3) := by decide +kernel
theorem dX0_copyFrom_108 : decode cX0_copyFrom 108 = .ok (.putfield 73, 3) := by decide +kernel
theorem dX0_copyFrom_111 : decode cX0_copyFrom 111 = .ok (.aload_n 0, 1) := by decide +kernel
theorem dX0_copyFrom_112 : decode cX0_copyFrom 112 = .ok (.aload_n 1, 1) := by decide +kernel
theorem dX0_copyFrom_113 : decode cX0_copyFrom 113 = .ok (.getfield 76, 3) := by decide +kernel
theorem dX0_copyFrom_116 : decode cX0_copyFrom 116 = .ok (.putfield 76, 3) := by decide +kernel
theorem dX0_copyFrom_119 : decode cX0_copyFrom 119 = .ok (.aload_n 0, 1) := by decide +kernel
theorem dX0_copyFrom_120 : decode cX0_copyFrom 120 = .ok (.aload_n 1, 1) := by decide +kernel
theorem dX0_copyFrom_121 : decode cX0_copyFrom 121 = .ok (.getfield 38, 3) := by decide +kernel
theorem dX0_copyFrom_124 : decode cX0_copyFrom 124 = .ok (.putfield 38, 3) := by decide +kernel
theorem dX0_copyFrom_127 : decode cX0_copyFrom 127 = .ok (.aload_n 0, 1) := by decide +kernel
theorem dX0_copyFrom_128 : decode cX0_copyFrom 128 = .ok (.aload_n 1, 1) := by decide +kernel
theorem dX0_copyFrom_129 : decode cX0_copyFrom 129 = .ok (.getfield 79, 3) := by decide +kernel
theorem dX0_copyFrom_132 : decode cX0_copyFrom 132 = .ok (.putfield 79, 3) := by decide +kernel
theorem dX0_copyFrom_135 : decode cX0_copyFrom 135 = .ok (.aload_n 0, 1) := by decide +kernel
theorem dX0_copyFrom_136 : decode cX0_copyFrom 136 = .ok (.aload_n 1, 1) := by decide +kernel
theorem dX0_copyFrom_137 : decode cX0_copyFrom 137 = .ok (.getfield 82, 3) := by decide +kernel
theorem dX0_copyFrom_140 : decode cX0_copyFrom 140 = .ok (.putfield 82, 3) := by decide +kernel
theorem dX0_copyFrom_143 : decode cX0_copyFrom 143 = .ok (.aload_n 0, 1) := by decide +kernel
theorem dX0_copyFrom_144 : decode cX0_copyFrom 144 = .ok (.aload_n 1, 1) := by decide +kernel
theorem dX0_copyFrom_145 : decode cX0_copyFrom 145 = .ok (.getfield 85, 3) := by decide +kernel
theorem dX0_copyFrom_148 : decode cX0_copyFrom 148 = .ok (.putfield 85, 3) := by decide +kernel
theorem dX0_copyFrom_151 : decode cX0_copyFrom 151 = .ok (.aload_n 0, 1) := by decide +kernel
theorem dX0_copyFrom_152 : decode cX0_copyFrom 152 = .ok (.aload_n 1, 1) := by decide +kernel
theorem dX0_copyFrom_153 : decode cX0_copyFrom 153 = .ok (.getfield 88, 3) := by decide +kernel
theorem dX0_copyFrom_156 : decode cX0_copyFrom 156 = .ok (.putfield 88, 3) := by decide +kernel
theorem dX0_copyFrom_159 : decode cX0_copyFrom 159 = .ok (.return_, 1) := by decide +kernel
set_option maxRecDepth 20000 in
theorem ggX0_addGate_X1_isFull : GoodIn wsX0_addGate wsX1_isFull := goodIn_r _ [8, 9, 42, 43, 44, 45, 46, 47] (by decide +kernel) (by decide +kernel)
set_option maxRecDepth 20000 in
theorem gX0_addGate_X1_isFull : GoodIn wsX0_addGate (wsV RX0 92 RX1 yX1_isFull wsX1_isFull) := goodIn_app (goodIn_of _ (by decide +kernel)) ggX0_addGate_X1_isFull
set_option maxRecDepth 20000 in
theorem ggX0_addGate_X1_append : GoodIn wsX0_addGate wsX1_append := goodIn_r _ [13, 14, 9, 15, 16, 17, 18, 19, 5, 6, 7, 8, 42, 43, 44, 45, 46, 47] (by decide +kernel) (by decide +kernel)
set_option maxRecDepth 20000 in
theorem gX0_addGate_X1_append : GoodIn wsX0_addGate (wsV RX0 97 RX1 yX1_append wsX1_append) := goodIn_app (goodIn_of _ (by decide +kernel)) ggX0_addGate_X1_append
set_option maxRecDepth 20000 in
theorem ggX0_addGate_X1_size : GoodIn wsX0_addGate wsX1_size := goodIn_r _ [23, 9, 42, 43, 44, 45, 46, 47] (by decide +kernel) (by decide +kernel)
set_option maxRecDepth 20000 in
theorem gX0_addGate_X1_size : GoodIn wsX0_addGate (wsV RX0 101 RX1 yX1_size wsX1_size) := goodIn_app (goodIn_of _ (by decide +kernel)) ggX0_addGate_X1_size
theorem dX0_addGate_0 : decode cX0_addGate 0 = .ok (.iload_n 1, 1) := by decide +kernel
theorem dX0_addGate_1 : decode cX0_addGate 1 = .ok (.ifCond .lt 19, 3) := by decide +kernel
theorem dX0_addGate_4 : decode cX0_addGate 4 = .ok (.iload_n 1, 1) := by decide +kernel
theorem dX0_addGate_5 : decode cX0_addGate 5 = .ok (.iconst 2, 1) := by decide +kernel
theorem dX0_addGate_6 : decode cX0_addGate 6 = .ok (.if_icmp .gt 14, 3) := by decide +kernel
theorem dX0_addGate_9 : decode cX0_addGate 9 = .ok (.iload_n 2, 1) := by decide +kernel
theorem dX0_addGate_10 : decode cX0_addGate 10 = .ok (.iconst 1, 1) := by decide +kernel
theorem dX0_addGate_11 : decode cX0_addGate 11 = .ok (.if_icmp .lt 9, 3) := by decide +kernel
theorem dX0_addGate_14 : decode cX0_addGate 14 = .ok (.iload_n 2, 1) := by decide +kernel
theorem dX0_addGate_15 : decode cX0_addGate 15 = .ok (.bipush 20, 2) := by decide +kernel
theorem dX0_addGate_17 : decode cX0_addGate 17 = .ok (.if_icmp .le 6, 3) := by decide +kernel
theorem dX0_addGate_20 : decode cX0_addGate 20 = .ok (.ldc 91, 2) := by decide +kernel
theorem dX0_addGate_22 : decode cX0_addGate 22 = .ok (.ireturn, 1) := by decide +kernel
theorem dX0_addGate_23 : decode cX0_addGate 23 = .ok (.aload_n 0, 1) := by decide +kernel
theorem dX0_addGate_24 : decode cX0_addGate 24 = .ok (.getfield 12, 3) := by decide +kernel
theorem dX0_addGate_27 : decode cX0_addGate 27 = .ok (.invokevirtual 92, 3) := by decide +kernel
theorem dX0_addGate_30 : decode cX0_addGate 30 = .ok (.ifCond .eq 6, 3) := by decide +kernel
theorem dX0_addGate_33 : decode cX0_addGate 33 = .ok (.ldc 96, 2) := by decide +kernel
theorem dX0_addGate_35 : decode cX0_addGate 35 = .ok (.ireturn, 1) := by decide +kernel
theorem dX0_addGate_36 : decode cX0_addGate 36 = .ok (.aload_n 0, 1) := by decide +kernel
theorem dX0_addGate_37 : decode cX0_addGate 37 = .ok (.getfield 12, 3) := by decide +kernel
theorem dX0_addGate_40 : decode cX0_addGate 40 = .ok (.iload_n 1, 1) := by decide +kernel
theorem dX0_addGate_41 : decode cX0_addGate 41 = .ok (.iload_n 2, 1) := by decide +kernel
theorem dX0_addGate_42 : decode cX0_addGate 42 = .ok (.invokevirtual 97, 3) := by decide +kernel
theorem dX0_addGate_45 : decode cX0_addGate 45 = .ok (.aload_n 0, 1) := by decide +kernel
theorem dX0_addGate_46 : decode cX0_addGate 46 = .ok (.getfield 12, 3) := by decide +kernel
theorem dX0_addGate_49 : decode cX0_addGate 49 = .ok (.invokevirtual 101, 3) := by decide +kernel
theorem dX0_addGate_52 : decode cX0_addGate 52 = .ok (.iconst 1, 1) := by decide +kernel
theorem dX0_addGate_53 : decode cX0_addGate 53 = .ok (.isub, 1) := by decide +kernel
theorem dX0_addGate_54 : decode cX0_addGate 54 = .ok (.ireturn, 1) := by decide +kernel
set_option maxRecDepth 20000 in
theorem ggX0_giveOrder_X1_has : GoodIn wsX0_giveOrder wsX1_has := goodIn_r _ [10, 11, 58, 59, 60, 61, 62, 63] (by decide +kernel) (by decide +kernel)
set_option maxRecDepth 20000 in
theorem gX0_giveOrder_X1_has : GoodIn wsX0_giveOrder (wsV RX0 105 RX1 yX1_has wsX1_has) := goodIn_app (goodIn_of _ (by decide +kernel)) ggX0_giveOrder_X1_has
set_option maxRecDepth 20000 in
theorem ggX0_giveOrder_X1_kind : GoodIn wsX0_giveOrder wsX1_kind := goodIn_r _ [15, 16, 17, 7, 8, 9, 10, 11, 58, 59, 60, 61, 62, 63] (by decide +kernel) (by decide +kernel)
set_option maxRecDepth 20000 in
theorem gX0_giveOrder_X1_kind : GoodIn wsX0_giveOrder (wsV RX0 109 RX1 yX1_kind wsX1_kind) := goodIn_app (goodIn_of _ (by decide +kernel)) ggX0_giveOrder_X1_kind
set_option maxRecDepth 20000 in
theorem ggX0_giveOrder_X4_indexOf : GoodIn wsX0_giveOrder wsX4_indexOf := goodIn_r _ [22, 23, 24, 64, 65, 66, 67] (by decide +kernel) (by decide +kernel)
set_option maxRecDepth 20000 in
theorem gX0_giveOrder_X4_indexOf : GoodIn wsX0_giveOrder (wsV RX0 114 RX4 yX4_indexOf wsX4_indexOf) := goodIn_app (goodIn_of _ (by decide +kernel)) ggX0_giveOrder_X4_indexOf
set_option maxRecDepth 20000 in
theorem ggX0_giveOrder_X4_removeAt : GoodIn wsX0_giveOrder wsX4_removeAt := goodIn_r _ [28, 23, 24, 29, 64, 65, 66, 67] (by decide +kernel) (by decide +kernel)
set_option maxRecDepth 20000 in
theorem gX0_giveOrder_X4_removeAt : GoodIn wsX0_giveOrder (wsV RX0 117 RX4 yX4_removeAt wsX4_removeAt) := goodIn_app (goodIn_of _ (by decide +kernel)) ggX0_giveOrder_X4_removeAt
set_option maxRecDepth 20000 in
theorem ggX0_giveOrder_X4_put : GoodIn wsX0_giveOrder wsX4_put := goodIn_r _ [33, 23, 34, 24, 29, 35, 19, 20, 21, 22, 64, 65, 66, 67] (by decide +kernel) (by decide +kernel)
set_option maxRecDepth 20000 in
theorem gX0_giveOrder_X4_put : GoodIn wsX0_giveOrder (wsV RX0 120 RX4 yX4_put wsX4_put) := goodIn_app (goodIn_of _ (by decide +kernel)) ggX0_giveOrder_X4_put
set_option maxRecDepth 20000 in
theorem ggX0_giveOrder_X4_size : GoodIn wsX0_giveOrder wsX4_size := goodIn_r _ [39, 23, 64, 65, 66, 67] (by decide +kernel) (by decide +kernel)
set_option maxRecDepth 20000 in
theorem gX0_giveOrder_X4_size : GoodIn wsX0_giveOrder (wsV RX0 123 RX4 yX4_size wsX4_size) := goodIn_app (goodIn_of _ (by decide +kernel)) ggX0_giveOrder_X4_size
theorem dX0_giveOrder_0 : decode cX0_giveOrder 0 = .ok (.aload_n 0, 1) := by decide +kernel
theorem dX0_giveOrder_1 : decode cX0_giveOrder 1 = .ok (.getfield 12, 3) := by decide +kernel
theorem dX0_giveOrder_4 : decode cX0_giveOrder 4 = .ok (.iload_n 1, 1) := by decide +kernel
theorem dX0_giveOrder_5 : decode cX0_giveOrder 5 = .ok (.invokevirtual 105, 3) := by decide +kernel
theorem dX0_giveOrder_8 : decode cX0_giveOrder 8 = .ok (.ifCond .eq 13, 3) := by decide +kernel
theorem dX0_giveOrder_11 : decode cX0_giveOrder 11 = .ok (.iload_n 2, 1) := by decide +kernel
theorem dX0_giveOrder_12 : decode cX0_giveOrder 12 = .ok (.ifCond .lt 9, 3) := by decide +kernel
theorem dX0_giveOrder_15 : decode cX0_giveOrder 15 = .ok (.iload_n 2, 1) := by decide +kernel
theorem dX0_giveOrder_16 : decode cX0_giveOrder 16 = .ok (.bipush 10, 2) := by decide +kernel
theorem dX0_giveOrder_18 : decode cX0_giveOrder 18 = .ok (.if_icmp .le 6, 3) := by decide +kernel
theorem dX0_giveOrder_21 : decode cX0_giveOrder 21 = .ok (.ldc 91, 2) := by decide +kernel
theorem dX0_giveOrder_23 : decode cX0_giveOrder 23 = .ok (.ireturn, 1) := by decide +kernel
theorem dX0_giveOrder_24 : decode cX0_giveOrder 24 = .ok (.aload_n 0, 1) := by decide +kernel
theorem dX0_giveOrder_25 : decode cX0_giveOrder 25 = .ok (.getfield 12, 3) := by decide +kernel
theorem dX0_giveOrder_28 : decode cX0_giveOrder 28 = .ok (.iload_n 1, 1) := by decide +kernel
theorem dX0_giveOrder_29 : decode cX0_giveOrder 29 = .ok (.invokevirtual 109, 3) := by decide +kernel
theorem dX0_giveOrder_32 : decode cX0_giveOrder 32 = .ok (.iconst 2, 1) := by decide +kernel
theorem dX0_giveOrder_33 : decode cX0_giveOrder 33 = .ok (.if_icmp .ne 12, 3) := by decide +kernel
theorem dX0_giveOrder_36 : decode cX0_giveOrder 36 = .ok (.iload_n 2, 1) := by decide +kernel
theorem dX0_giveOrder_37 : decode cX0_giveOrder 37 = .ok (.iconst 2, 1) := by decide +kernel
theorem dX0_giveOrder_38 : decode cX0_giveOrder 38 = .ok (.irem, 1) := by decide +kernel
theorem dX0_giveOrder_39 : decode cX0_giveOrder 39 = .ok (.ifCond .eq 6, 3) := by decide +kernel
theorem dX0_giveOrder_42 : decode cX0_giveOrder 42 = .ok (.ldc 113, 2) := by decide +kernel
theorem dX0_giveOrder_44 : decode cX0_giveOrder 44 = .ok (.ireturn, 1) := by decide +kernel
theorem dX0_giveOrder_45 : decode cX0_giveOrder 45 = .ok (.aload_n 0, 1) := by decide +kernel
theorem dX0_giveOrder_46 : decode cX0_giveOrder 46 = .ok (.getfield 27, 3) := by decide +kernel
theorem dX0_giveOrder_49 : decode cX0_giveOrder 49 = .ok (.aload_n 0, 1) := by decide +kernel
theorem dX0_giveOrder_50 : decode cX0_giveOrder 50 = .ok (.getfield 27, 3) := by decide +kernel
theorem dX0_giveOrder_53 : decode cX0_giveOrder 53 = .ok (.iload_n 1, 1) := by decide +kernel
theorem dX0_giveOrder_54 : decode cX0_giveOrder 54 = .ok (.invokevirtual 114, 3) := by decide +kernel
theorem dX0_giveOrder_57 : decode cX0_giveOrder 57 = .ok (.invokevirtual 117, 3) := by decide +kernel
theorem dX0_giveOrder_60 : decode cX0_giveOrder 60 = .ok (.aload_n 0, 1) := by decide +kernel
theorem dX0_giveOrder_61 : decode cX0_giveOrder 61 = .ok (.getfield 23, 3) := by decide +kernel
theorem dX0_giveOrder_64 : decode cX0_giveOrder 64 = .ok (.iload_n 1, 1) := by decide +kernel
theorem dX0_giveOrder_65 : decode cX0_giveOrder 65 = .ok (.iload_n 2, 1) := by decide +kernel
theorem dX0_giveOrder_66 : decode cX0_giveOrder 66 = .ok (.invokevirtual 120, 3) := by decide +kernel
theorem dX0_giveOrder_69 : decode cX0_giveOrder 69 = .ok (.aload_n 0, 1) := by decide +kernel
theorem dX0_giveOrder_70 : decode cX0_giveOrder 70 = .ok (.getfield 23, 3) := by decide +kernel
theorem dX0_giveOrder_73 : decode cX0_giveOrder 73 = .ok (.invokevirtual 123, 3) := by decide +kernel
theorem dX0_giveOrder_76 : decode cX0_giveOrder 76 = .ok (.ireturn, 1) := by decide +kernel
set_option maxRecDepth 20000 in
theorem ggX0_cancelOrder_X1_has : GoodIn wsX0_cancelOrder wsX1_has := goodIn_r _ [9, 10, 45, 46, 47, 48, 49, 50] (by decide +kernel) (by decide +kernel)
set_option maxRecDepth 20000 in
theorem gX0_cancelOrder_X1_has : GoodIn wsX0_cancelOrder (wsV RX0 105 RX1 yX1_has wsX1_has) := goodIn_app (goodIn_of _ (by decide +kernel)) ggX0_cancelOrder_X1_has
set_option maxRecDepth 20000 in
theorem ggX0_cancelOrder_X4_indexOf : GoodIn wsX0_cancelOrder wsX4_indexOf := goodIn_r _ [15, 16, 17, 51, 52, 53, 54] (by decide +kernel) (by decide +kernel)
set_option maxRecDepth 20000 in
theorem gX0_cancelOrder_X4_indexOf : GoodIn wsX0_cancelOrder (wsV RX0 114 RX4 yX4_indexOf wsX4_indexOf) := goodIn_app (goodIn_of _ (by decide +kernel)) ggX0_cancelOrder_X4_indexOf
set_option maxRecDepth 20000 in
theorem ggX0_cancelOrder_X4_openingAt : GoodIn wsX0_cancelOrder wsX4_openingAt := goodIn_r _ [21, 16, 22, 51, 52, 53, 54] (by decide +kernel) (by decide +kernel)
set_option maxRecDepth 20000 in
theorem gX0_cancelOrder_X4_openingAt : GoodIn wsX0_cancelOrder (wsV RX0 124 RX4 yX4_openingAt wsX4_openingAt) := goodIn_app (goodIn_of _ (by decide +kernel)) ggX0_cancelOrder_X4_openingAt
set_option maxRecDepth 20000 in
theorem ggX0_cancelOrder_X4_removeAt : GoodIn wsX0_cancelOrder wsX4_removeAt := goodIn_r _ [26, 16, 17, 22, 51, 52, 53, 54] (by decide +kernel) (by decide +kernel)
set_option maxRecDepth 20000 in
theorem gX0_cancelOrder_X4_removeAt : GoodIn wsX0_cancelOrder (wsV RX0 117 RX4 yX4_removeAt wsX4_removeAt) := goodIn_app (goodIn_of _ (by decide +kernel)) ggX0_cancelOrder_X4_removeAt
theorem dX0_cancelOrder_0 : decode cX0_cancelOrder 0 = .ok (.aload_n 0, 1) := by decide +kernel
theorem dX0_cancelOrder_1 : decode cX0_cancelOrder 1 = .ok (.getfield 12, 3) := by decide +kernel
theorem dX0_cancelOrder_4 : decode cX0_cancelOrder 4 = .ok (.iload_n 1, 1) := by decide +kernel
theorem dX0_cancelOrder_5 : decode cX0_cancelOrder 5 = .ok (.invokevirtual 105, 3) := by decide +kernel
theorem dX0_cancelOrder_8 : decode cX0_cancelOrder 8 = .ok (.ifCond .ne 6, 3) := by decide +kernel
theorem dX0_cancelOrder_11 : decode cX0_cancelOrder 11 = .ok (.ldc 91, 2) := by decide +kernel
theorem dX0_cancelOrder_13 : decode cX0_cancelOrder 13 = .ok (.ireturn, 1) := by decide +kernel
theorem dX0_cancelOrder_14 : decode cX0_cancelOrder 14 = .ok (.aload_n 0, 1) := by decide +kernel
theorem dX0_cancelOrder_15 : decode cX0_cancelOrder 15 = .ok (.getfield 23, 3) := by decide +kernel
theorem dX0_cancelOrder_18 : decode cX0_cancelOrder 18 = .ok (.iload_n 1, 1) := by decide +kernel
theorem dX0_cancelOrder_19 : decode cX0_cancelOrder 19 = .ok (.invokevirtual 114, 3) := by decide +kernel
theorem dX0_cancelOrder_22 : decode cX0_cancelOrder 22 = .ok (.istore_n 2, 1) := by decide +kernel
theorem dX0_cancelOrder_23 : decode cX0_cancelOrder 23 = .ok (.iload_n 2, 1) := by decide +kernel
theorem dX0_cancelOrder_24 : decode cX0_cancelOrder 24 = .ok (.iconst (-1), 1) := by decide +kernel
theorem dX0_cancelOrder_25 : decode cX0_cancelOrder 25 = .ok (.if_icmp .ne 6, 3) := by decide +kernel
theorem dX0_cancelOrder_28 : decode cX0_cancelOrder 28 = .ok (.ldc 113, 2) := by decide +kernel
theorem dX0_cancelOrder_30 : decode cX0_cancelOrder 30 = .ok (.ireturn, 1) := by decide +kernel
theorem dX0_cancelOrder_31 : decode cX0_cancelOrder 31 = .ok (.aload_n 0, 1) := by decide +kernel
theorem dX0_cancelOrder_32 : decode cX0_cancelOrder 32 = .ok (.getfield 23, 3) := by decide +kernel
theorem dX0_cancelOrder_35 : decode cX0_cancelOrder 35 = .ok (.iload_n 2, 1) := by decide +kernel
theorem dX0_cancelOrder_36 : decode cX0_cancelOrder 36 = .ok (.invokevirtual 124, 3) := by decide +kernel
theorem dX0_cancelOrder_39 : decode cX0_cancelOrder 39 = .ok (.istore_n 3, 1) := by decide +kernel
theorem dX0_cancelOrder_40 : decode cX0_cancelOrder 40 = .ok (.aload_n 0, 1) := by decide +kernel
theorem dX0_cancelOrder_41 : decode cX0_cancelOrder 41 = .ok (.getfield 23, 3) := by decide +kernel
theorem dX0_cancelOrder_44 : decode cX0_cancelOrder 44 = .ok (.iload_n 2, 1) := by decide +kernel
theorem dX0_cancelOrder_45 : decode cX0_cancelOrder 45 = .ok (.invokevirtual 117, 3) := by decide +kernel
theorem dX0_cancelOrder_48 : decode cX0_cancelOrder 48 = .ok (.iload_n 3, 1) := by decide +kernel
theorem dX0_cancelOrder_49 : decode cX0_cancelOrder 49 = .ok (.ireturn, 1) := by decide +kernel
theorem dX0_changeInflow_0 : decode cX0_changeInflow 0 = .ok (.iload_n 1, 1) := by decide +kernel
theorem dX0_changeInflow_1 : decode cX0_changeInflow 1 = .ok (.ifCond .lt 10, 3) := by decide +kernel
theorem dX0_changeInflow_4 : decode cX0_changeInflow 4 = .ok (.iload_n 1, 1) := by decide +kernel
theorem dX0_changeInflow_5 : decode cX0_changeInflow 5 = .ok (.sipush 300, 3) := by decide +kernel
theorem dX0_changeInflow_8 : decode cX0_changeInflow 8 = .ok (.if_icmp .le 6, 3) := by decide +kernel
theorem dX0_changeInflow_11 : decode cX0_changeInflow 11 = .ok (.ldc 91, 2) := by decide +kernel
theorem dX0_changeInflow_13 : decode cX0_changeInflow 13 = .ok (.ireturn, 1) := by decide +kernel
theorem dX0_changeInflow_14 : decode cX0_changeInflow 14 = .ok (.aload_n 0, 1) := by decide +kernel
theorem dX0_changeInflow_15 : decode cX0_changeInflow 15 = .ok (.getfield 54, 3) := by decide +kernel
theorem dX0_changeInflow_18 : decode cX0_changeInflow 18 = .ok (.istore_n 2, 1) := by decide +kernel
theorem dX0_changeInflow_19 : decode cX0_changeInflow 19 = .ok (.aload_n 0, 1) := by decide +kernel
theorem dX0_changeInflow_20 : decode cX0_changeInflow 20 = .ok (.iload_n 1, 1) := by decide +kernel
theorem dX0_changeInflow_21 : decode cX0_changeInflow 21 = .ok (.putfield 54, 3) := by decide +kernel
theorem dX0_changeInflow_24 : decode cX0_changeInflow 24 = .ok (.iload_n 2, 1) := by decide +kernel
theorem dX0_changeInflow_25 : decode cX0_changeInflow 25 = .ok (.ireturn, 1) := by decide +kernel
theorem dX0_changeWater_0 : decode cX0_changeWater 0 = .ok (.iload_n 1, 1) := by decide +kernel
theorem dX0_changeWater_1 : decode cX0_changeWater 1 = .ok (.ifCond .lt 10, 3) := by decide +kernel
theorem dX0_changeWater_4 : decode cX0_changeWater 4 = .ok (.iload_n 1, 1) := by decide +kernel
theorem dX0_changeWater_5 : decode cX0_changeWater 5 = .ok (.sipush 9999, 3) := by decide +kernel
theorem dX0_changeWater_8 : decode cX0_changeWater 8 = .ok (.if_icmp .le 6, 3) := by decide +kernel
theorem dX0_changeWater_11 : decode cX0_changeWater 11 = .ok (.ldc 91, 2) := by decide +kernel
theorem dX0_changeWater_13 : decode cX0_changeWater 13 = .ok (.ireturn, 1) := by decide +kernel
theorem dX0_changeWater_14 : decode cX0_changeWater 14 = .ok (.aload_n 0, 1) := by decide +kernel
theorem dX0_changeWater_15 : decode cX0_changeWater 15 = .ok (.getfield 34, 3) := by decide +kernel
theorem dX0_changeWater_18 : decode cX0_changeWater 18 = .ok (.istore_n 2, 1) := by decide +kernel
theorem dX0_changeWater_19 : decode cX0_changeWater 19 = .ok (.aload_n 0, 1) := by decide +kernel
theorem dX0_changeWater_20 : decode cX0_changeWater 20 = .ok (.iload_n 1, 1) := by decide +kernel
theorem dX0_changeWater_21 : decode cX0_changeWater 21 = .ok (.putfield 34, 3) := by decide +kernel
theorem dX0_changeWater_24 : decode cX0_changeWater 24 = .ok (.iload_n 2, 1) := by decide +kernel
theorem dX0_changeWater_25 : decode cX0_changeWater 25 = .ok (.ireturn, 1) := by decide +kernel
theorem dX0_changeSetting_0 : decode cX0_changeSetting 0 = .ok (.iload_n 1, 1) := by decide +kernel
theorem dX0_changeSetting_1 : decode cX0_changeSetting 1 = .ok (.ifCond .lt 8, 3) := by decide +kernel
theorem dX0_changeSetting_4 : decode cX0_changeSetting 4 = .ok (.iload_n 1, 1) := by decide +kernel
theorem dX0_changeSetting_5 : decode cX0_changeSetting 5 = .ok (.iconst 3, 1) := by decide +kernel
theorem dX0_changeSetting_6 : decode cX0_changeSetting 6 = .ok (.if_icmp .lt 6, 3) := by decide +kernel
theorem dX0_changeSetting_9 : decode cX0_changeSetting 9 = .ok (.ldc 91, 2) := by decide +kernel
theorem dX0_changeSetting_11 : decode cX0_changeSetting 11 = .ok (.ireturn, 1) := by decide +kernel
theorem dX0_changeSetting_12 : decode cX0_changeSetting 12 = .ok (.iload_n 1, 1) := by decide +kernel
theorem dX0_changeSetting_13 : decode cX0_changeSetting 13 = .ok (.iconst 2, 1) := by decide +kernel
theorem dX0_changeSetting_14 : decode cX0_changeSetting 14 = .ok (.if_icmp .ne 7, 3) := by decide +kernel
theorem dX0_changeSetting_17 : decode cX0_changeSetting 17 = .ok (.iconst 0, 1) := by decide +kernel
theorem dX0_changeSetting_18 : decode cX0_changeSetting 18 = .ok (.goto 4, 3) := by decide +kernel
theorem dX0_changeSetting_21 : decode cX0_changeSetting 21 = .ok (.iconst 1, 1) := by decide +kernel
theorem dX0_changeSetting_22 : decode cX0_changeSetting 22 = .ok (.istore_n 3, 1) := by decide +kernel
theorem dX0_changeSetting_23 : decode cX0_changeSetting 23 = .ok (.iload_n 1, 1) := by decide +kernel
theorem dX0_changeSetting_24 : decode cX0_changeSetting 24 = .ok (.iconst 2, 1) := by decide +kernel
theorem dX0_changeSetting_25 : decode cX0_changeSetting 25 = .ok (.if_icmp .ne 7, 3) := by decide +kernel
theorem dX0_changeSetting_28 : decode cX0_changeSetting 28 = .ok (.iconst 2, 1) := by decide +kernel
theorem dX0_changeSetting_29 : decode cX0_changeSetting 29 = .ok (.goto 6, 3) := by decide +kernel
theorem dX0_changeSetting_32 : decode cX0_changeSetting 32 = .ok (.sipush 9999, 3) := by decide +kernel
theorem dX0_changeSetting_35 : decode cX0_changeSetting 35 = .ok (.istore 4, 2) := by decide +kernel
theorem dX0_changeSetting_37 : decode cX0_changeSetting 37 = .ok (.iload_n 2, 1) := by decide +kernel
theorem dX0_changeSetting_38 : decode cX0_changeSetting 38 = .ok (.iload_n 3, 1) := by decide +kernel
theorem dX0_changeSetting_39 : decode cX0_changeSetting 39 = .ok (.if_icmp .lt 9, 3) := by decide +kernel
theorem dX0_changeSetting_42 : decode cX0_changeSetting 42 = .ok (.iload_n 2, 1) := by decide +kernel
theorem dX0_changeSetting_43 : decode cX0_changeSetting 43 = .ok (.iload 4, 2) := by decide +kernel
theorem dX0_changeSetting_45 : decode cX0_changeSetting 45 = .ok (.if_icmp .le 6, 3) := by decide +kernel
theorem dX0_changeSetting_48 : decode cX0_changeSetting 48 = .ok (.ldc 91, 2) := by decide +kernel
theorem dX0_changeSetting_50 : decode cX0_changeSetting 50 = .ok (.ireturn, 1) := by decide +kernel
theorem dX0_changeSetting_51 : decode cX0_changeSetting 51 = .ok (.aload_n 0, 1) := by decide +kernel
theorem dX0_changeSetting_52 : decode cX0_changeSetting 52 = .ok (.getfield 30, 3) := by decide +kernel
theorem dX0_changeSetting_55 : decode cX0_changeSetting 55 = .ok (.iload_n 1, 1) := by decide +kernel
theorem dX0_changeSetting_56 : decode cX0_changeSetting 56 = .ok (.iaload, 1) := by decide +kernel
theorem dX0_changeSetting_57 : decode cX0_changeSetting 57 = .ok (.istore 5, 2) := by decide +kernel
theorem dX0_changeSetting_59 : decode cX0_changeSetting 59 = .ok (.aload_n 0, 1) := by decide +kernel
theorem dX0_changeSetting_60 : decode cX0_changeSetting 60 = .ok (.getfield 30, 3) := by decide +kernel
theorem dX0_changeSetting_63 : decode cX0_changeSetting 63 = .ok (.iload_n 1, 1) := by decide +kernel
theorem dX0_changeSetting_64 : decode cX0_changeSetting 64 = .ok (.iload_n 2, 1) := by decide +kernel
theorem dX0_changeSetting_65 : decode cX0_changeSetting 65 = .ok (.iastore, 1) := by decide +kernel
theorem dX0_changeSetting_66 : decode cX0_changeSetting 66 = .ok (.iload 5, 2) := by decide +kernel
theorem dX0_changeSetting_68 : decode cX0_changeSetting 68 = .ok (.ireturn, 1) := by decide +kernel
theorem dX0_refusalToPass_0 : decode cX0_refusalToPass 0 = .ok (.iload_n 1, 1) := by decide +kernel
theorem dX0_refusalToPass_1 : decode cX0_refusalToPass 1 = .ok (.iconst 1, 1) := by decide +kernel
theorem dX0_refusalToPass_2 : decode cX0_refusalToPass 2 = .ok (.if_icmp .lt 10, 3) := by decide +kernel
theorem dX0_refusalToPass_5 : decode cX0_refusalToPass 5 = .ok (.iload_n 1, 1) := by decide +kernel
theorem dX0_refusalToPass_6 : decode cX0_refusalToPass 6 = .ok (.sipush 240, 3) := by decide +kernel
theorem dX0_refusalToPass_9 : decode cX0_refusalToPass 9 = .ok (.if_icmp .le 6, 3) := by decide +kernel
theorem dX0_refusalToPass_12 : decode cX0_refusalToPass 12 = .ok (.ldc 91, 2) := by decide +kernel
theorem dX0_refusalToPass_14 : decode cX0_refusalToPass 14 = .ok (.ireturn, 1) := by decide +kernel
theorem dX0_refusalToPass_15 : decode cX0_refusalToPass 15 = .ok (.aload_n 0, 1) := by decide +kernel
theorem dX0_refusalToPass_16 : decode cX0_refusalToPass 16 = .ok (.getfield 66, 3) := by decide +kernel
theorem dX0_refusalToPass_19 : decode cX0_refusalToPass 19 = .ok (.iload_n 1, 1) := by decide +kernel
theorem dX0_refusalToPass_20 : decode cX0_refusalToPass 20 = .ok (.iadd, 1) := by decide +kernel
theorem dX0_refusalToPass_21 : decode cX0_refusalToPass 21 = .ok (.ldc 127, 2) := by decide +kernel
theorem dX0_refusalToPass_23 : decode cX0_refusalToPass 23 = .ok (.if_icmp .le 8, 3) := by decide +kernel
theorem dX0_refusalToPass_26 : decode cX0_refusalToPass 26 = .ok (.ldc 96, 2) := by decide +kernel
theorem dX0_refusalToPass_28 : decode cX0_refusalToPass 28 = .ok (.goto 4, 3) := by decide +kernel
theorem dX0_refusalToPass_31 : decode cX0_refusalToPass 31 = .ok (.iconst 0, 1) := by decide +kernel
theorem dX0_refusalToPass_32 : decode cX0_refusalToPass 32 = .ok (.ireturn, 1) := by decide +kernel
set_option maxRecDepth 20000 in
theorem ggX0_letPass_X0_beginOrEndFlood : GoodIn wsX0_letPass wsX0_beginOrEndFlood := goodIn_r _ [6, 7, 8, 9, 10, 11, 12, 13, 14, 15, 16, 5, 17, 18, 19, 20, 21, 22, 23, 24, 25, 26, 27, 28, 29, 30, 31, 32, 33, 34, 35, 36, 37, 38, 39, 40, 41, 42, 43, 44, 45, 46, 47, 143, 144, 145, 146, 147, 148, 149, 150, 151, 152, 153, 154, 155, 156, 157, 158, 159, 160, 161, 162, 163, 164] (by decide +kernel) (by decide +kernel)
set_option maxRecDepth 20000 in
theorem gX0_letPass_X0_beginOrEndFlood : GoodIn wsX0_letPass (wsV RX0 128 RX0 yX0_beginOrEndFlood wsX0_beginOrEndFlood) := goodIn_app (goodIn_of _ (by decide +kernel)) ggX0_letPass_X0_beginOrEndFlood
set_option maxRecDepth 20000 in
theorem ggX0_letPass_X0_takeTask : GoodIn wsX0_letPass wsX0_takeTask := goodIn_r _ [51, 7, 52, 53, 10, 11, 9, 54, 18, 19, 20, 5, 21, 55, 56, 57, 58, 59, 60, 61, 62, 31, 63, 64, 65, 66, 67, 68, 69, 70, 71, 25, 72, 27, 73, 74, 75, 76, 77, 78, 79, 80, 33, 81, 82, 83, 84, 34, 85, 40, 41, 42, 86, 87, 88, 89, 13, 90, 91, 92, 93, 94, 95, 96, 97, 98, 99, 143, 144, 145, 146, 147, 148, 149, 150, 151, 152, 153, 154, 155, 156, 157, 158, 159, 160, 165, 166, 167, 168, 169, 170, 161, 162, 163, 164] (by decide +kernel) (by decide +kernel)
set_option maxRecDepth 20000 in
theorem gX0_letPass_X0_takeTask : GoodIn wsX0_letPass (wsV RX0 131 RX0 yX0_takeTask wsX0_takeTask) := goodIn_app (goodIn_of _ (by decide +kernel)) ggX0_letPass_X0_takeTask
set_option maxRecDepth 20000 in
theorem ggX0_letPass_X0_work : GoodIn wsX0_letPass wsX0_work := goodIn_r _ [103, 104, 53, 10, 52, 11, 18, 19, 20, 5, 21, 105, 106, 107, 58, 108, 64, 109, 61, 62, 31, 63, 110, 30, 32, 111, 112, 113, 114, 115, 60, 95, 96, 97, 98, 99, 91, 92, 93, 94, 143, 144, 145, 146, 147, 148, 149, 150, 151, 152, 153, 154, 155, 156, 157, 158, 159, 160, 165, 166, 167, 168, 169, 170] (by decide +kernel) (by decide +kernel)
set_option maxRecDepth 20000 in
theorem gX0_letPass_X0_work : GoodIn wsX0_letPass (wsV RX0 134 RX0 yX0_work wsX0_work) := goodIn_app (goodIn_of _ (by decide +kernel)) ggX0_letPass_X0_work
set_option maxRecDepth 20000 in
theorem ggX0_letPass_X0_letWaterFlow : GoodIn wsX0_letPass wsX0_letWaterFlow := goodIn_r _ [119, 12, 120, 121, 52, 122, 30, 31, 32, 123, 124, 125, 126, 127, 5, 128, 129, 130, 131, 58, 132, 60, 133, 134, 135, 136, 109, 64, 137, 112, 113, 114, 115, 138, 139, 140, 141, 142, 143, 144, 145, 146, 147, 148, 149, 150, 151, 152, 153, 154, 155, 156, 157, 158, 159, 160, 165, 166, 167, 168, 169, 170] (by decide +kernel) (by decide +kernel)
set_option maxRecDepth 20000 in
theorem gX0_letPass_X0_letWaterFlow : GoodIn wsX0_letPass (wsV RX0 137 RX0 yX0_letWaterFlow wsX0_letWaterFlow) := goodIn_app (goodIn_of _ (by decide +kernel)) ggX0_letPass_X0_letWaterFlow
theorem dX0_letPass_0 : decode cX0_letPass 0 = .ok (.iconst 0, 1) := by decide +kernel
theorem dX0_letPass_1 : decode cX0_letPass 1 = .ok (.istore_n 2, 1) := by decide +kernel
theorem dX0_letPass_2 : decode cX0_letPass 2 = .ok (.iload_n 2, 1) := by decide +kernel
theorem dX0_letPass_3 : decode cX0_letPass 3 = .ok (.iload_n 1, 1) := by decide +kernel
theorem dX0_letPass_4 : decode cX0_letPass 4 = .ok (.if_icmp .ge 35, 3) := by decide +kernel
theorem dX0_letPass_7 : decode cX0_letPass 7 = .ok (.aload_n 0, 1) := by decide +kernel
theorem dX0_letPass_8 : decode cX0_letPass 8 = .ok (.invokevirtual 128, 3) := by decide +kernel
theorem dX0_letPass_11 : decode cX0_letPass 11 = .ok (.aload_n 0, 1) := by decide +kernel
theorem dX0_letPass_12 : decode cX0_letPass 12 = .ok (.invokevirtual 131, 3) := by decide +kernel
theorem dX0_letPass_15 : decode cX0_letPass 15 = .ok (.aload_n 0, 1) := by decide +kernel
theorem dX0_letPass_16 : decode cX0_letPass 16 = .ok (.invokevirtual 134, 3) := by decide +kernel
theorem dX0_letPass_19 : decode cX0_letPass 19 = .ok (.aload_n 0, 1) := by decide +kernel
theorem dX0_letPass_20 : decode cX0_letPass 20 = .ok (.invokevirtual 137, 3) := by decide +kernel
theorem dX0_letPass_23 : decode cX0_letPass 23 = .ok (.aload_n 0, 1) := by decide +kernel
theorem dX0_letPass_24 : decode cX0_letPass 24 = .ok (.dup, 1) := by decide +kernel
theorem dX0_letPass_25 : decode cX0_letPass 25 = .ok (.getfield 66, 3) := by decide +kernel
theorem dX0_letPass_28 : decode cX0_letPass 28 = .ok (.iconst 1, 1) := by decide +kernel
theorem dX0_letPass_29 : decode cX0_letPass 29 = .ok (.iadd, 1) := by decide +kernel
theorem dX0_letPass_30 : decode cX0_letPass 30 = .ok (.putfield 66, 3) := by decide +kernel
theorem dX0_letPass_33 : decode cX0_letPass 33 = .ok (.iinc 2 1, 3) := by decide +kernel
theorem dX0_letPass_36 : decode cX0_letPass 36 = .ok (.goto (-34), 3) := by decide +kernel
theorem dX0_letPass_39 : decode cX0_letPass 39 = .ok (.return_, 1) := by decide +kernel
set_option maxRecDepth 20000 in
theorem ggX0_beginOrEndFlood_X0_floodIsDue : GoodIn wsX0_beginOrEndFlood wsX0_floodIsDue := goodIn_r _ [12, 1, 6, 7, 43, 44, 45, 46, 47, 48, 49, 50, 51, 52, 53, 54, 55, 56, 57, 58, 59, 60] (by decide +kernel) (by decide +kernel)
set_option maxRecDepth 20000 in
theorem gX0_beginOrEndFlood_X0_floodIsDue : GoodIn wsX0_beginOrEndFlood (wsV RX0 140 RX0 yX0_floodIsDue wsX0_floodIsDue) := goodIn_app (goodIn_of _ (by decide +kernel)) ggX0_beginOrEndFlood_X0_floodIsDue
set_option maxRecDepth 20000 in
theorem ggX0_beginOrEndFlood_X0_hasTask : GoodIn wsX0_beginOrEndFlood wsX0_hasTask := goodIn_r _ [16, 4, 43, 44, 45, 46, 47, 48, 49, 50, 51, 52, 53, 54, 55, 56, 57, 58, 59, 60] (by decide +kernel) (by decide +kernel)
set_option maxRecDepth 20000 in
theorem gX0_beginOrEndFlood_X0_hasTask : GoodIn wsX0_beginOrEndFlood (wsV RX0 143 RX0 yX0_hasTask wsX0_hasTask) := goodIn_app (goodIn_of _ (by decide +kernel)) ggX0_beginOrEndFlood_X0_hasTask
set_option maxRecDepth 20000 in
theorem ggX0_beginOrEndFlood_X4_putFirst : GoodIn wsX0_beginOrEndFlood wsX4_putFirst := goodIn_r _ [21, 22, 23, 24, 25, 26, 27, 28, 29, 30, 31, 32, 20, 33, 34, 35, 36, 37, 61, 62, 63, 64] (by decide +kernel) (by decide +kernel)
set_option maxRecDepth 20000 in
theorem gX0_beginOrEndFlood_X4_putFirst : GoodIn wsX0_beginOrEndFlood (wsV RX0 146 RX4 yX4_putFirst wsX4_putFirst) := goodIn_app (goodIn_of _ (by decide +kernel)) ggX0_beginOrEndFlood_X4_putFirst
set_option maxRecDepth 20000 in
theorem ggX0_beginOrEndFlood_X0_leaveTask : GoodIn wsX0_beginOrEndFlood wsX0_leaveTask := goodIn_r _ [41, 4, 42, 13, 14, 15, 11, 16, 43, 44, 45, 46, 47, 48, 49, 50, 51, 52, 53, 54, 55, 56, 57, 58, 59, 60] (by decide +kernel) (by decide +kernel)
set_option maxRecDepth 20000 in
theorem gX0_beginOrEndFlood_X0_leaveTask : GoodIn wsX0_beginOrEndFlood (wsV RX0 149 RX0 yX0_leaveTask wsX0_leaveTask) := goodIn_app (goodIn_of _ (by decide +kernel)) ggX0_beginOrEndFlood_X0_leaveTask
theorem dX0_beginOrEndFlood_0 : decode cX0_beginOrEndFlood 0 = .ok (.aload_n 0, 1) := by decide +kernel
theorem dX0_beginOrEndFlood_1 : decode cX0_beginOrEndFlood 1 = .ok (.invokevirtual 140, 3) := by decide +kernel
theorem dX0_beginOrEndFlood_4 : decode cX0_beginOrEndFlood 4 = .ok (.ifCond .eq 47, 3) := by decide +kernel
theorem dX0_beginOrEndFlood_7 : decode cX0_beginOrEndFlood 7 = .ok (.aload_n 0, 1) := by decide +kernel
theorem dX0_beginOrEndFlood_8 : decode cX0_beginOrEndFlood 8 = .ok (.iconst 1, 1) := by decide +kernel
theorem dX0_beginOrEndFlood_9 : decode cX0_beginOrEndFlood 9 = .ok (.putfield 69, 3) := by decide +kernel
theorem dX0_beginOrEndFlood_12 : decode cX0_beginOrEndFlood 12 = .ok (.aload_n 0, 1) := by decide +kernel
theorem dX0_beginOrEndFlood_13 : decode cX0_beginOrEndFlood 13 = .ok (.dup, 1) := by decide +kernel
theorem dX0_beginOrEndFlood_14 : decode cX0_beginOrEndFlood 14 = .ok (.getfield 73, 3) := by decide +kernel
theorem dX0_beginOrEndFlood_17 : decode cX0_beginOrEndFlood 17 = .ok (.iconst 1, 1) := by decide +kernel
theorem dX0_beginOrEndFlood_18 : decode cX0_beginOrEndFlood 18 = .ok (.iadd, 1) := by decide +kernel
theorem dX0_beginOrEndFlood_19 : decode cX0_beginOrEndFlood 19 = .ok (.putfield 73, 3) := by decide +kernel
theorem dX0_beginOrEndFlood_22 : decode cX0_beginOrEndFlood 22 = .ok (.aload_n 0, 1) := by decide +kernel
theorem dX0_beginOrEndFlood_23 : decode cX0_beginOrEndFlood 23 = .ok (.invokevirtual 143, 3) := by decide +kernel
theorem dX0_beginOrEndFlood_26 : decode cX0_beginOrEndFlood 26 = .ok (.ifCond .eq 18, 3) := by decide +kernel
theorem dX0_beginOrEndFlood_29 : decode cX0_beginOrEndFlood 29 = .ok (.aload_n 0, 1) := by decide +kernel
theorem dX0_beginOrEndFlood_30 : decode cX0_beginOrEndFlood 30 = .ok (.getfield 27, 3) := by decide +kernel
theorem dX0_beginOrEndFlood_33 : decode cX0_beginOrEndFlood 33 = .ok (.aload_n 0, 1) := by decide +kernel
theorem dX0_beginOrEndFlood_34 : decode cX0_beginOrEndFlood 34 = .ok (.getfield 38, 3) := by decide +kernel
theorem dX0_beginOrEndFlood_37 : decode cX0_beginOrEndFlood 37 = .ok (.aload_n 0, 1) := by decide +kernel
theorem dX0_beginOrEndFlood_38 : decode cX0_beginOrEndFlood 38 = .ok (.getfield 79, 3) := by decide +kernel
theorem dX0_beginOrEndFlood_41 : decode cX0_beginOrEndFlood 41 = .ok (.invokevirtual 146, 3) := by decide +kernel
theorem dX0_beginOrEndFlood_44 : decode cX0_beginOrEndFlood 44 = .ok (.aload_n 0, 1) := by decide +kernel
theorem dX0_beginOrEndFlood_45 : decode cX0_beginOrEndFlood 45 = .ok (.invokevirtual 149, 3) := by decide +kernel
theorem dX0_beginOrEndFlood_48 : decode cX0_beginOrEndFlood 48 = .ok (.goto 32, 3) := by decide +kernel
theorem dX0_beginOrEndFlood_51 : decode cX0_beginOrEndFlood 51 = .ok (.aload_n 0, 1) := by decide +kernel
theorem dX0_beginOrEndFlood_52 : decode cX0_beginOrEndFlood 52 = .ok (.getfield 69, 3) := by decide +kernel
theorem dX0_beginOrEndFlood_55 : decode cX0_beginOrEndFlood 55 = .ok (.ifCond .eq 25, 3) := by decide +kernel
theorem dX0_beginOrEndFlood_58 : decode cX0_beginOrEndFlood 58 = .ok (.aload_n 0, 1) := by decide +kernel
theorem dX0_beginOrEndFlood_59 : decode cX0_beginOrEndFlood 59 = .ok (.getfield 34, 3) := by decide +kernel
theorem dX0_beginOrEndFlood_62 : decode cX0_beginOrEndFlood 62 = .ok (.aload_n 0, 1) := by decide +kernel
theorem dX0_beginOrEndFlood_63 : decode cX0_beginOrEndFlood 63 = .ok (.getfield 30, 3) := by decide +kernel
theorem dX0_beginOrEndFlood_66 : decode cX0_beginOrEndFlood 66 = .ok (.iconst 1, 1) := by decide +kernel
theorem dX0_beginOrEndFlood_67 : decode cX0_beginOrEndFlood 67 = .ok (.iaload, 1) := by decide +kernel
theorem dX0_beginOrEndFlood_68 : decode cX0_beginOrEndFlood 68 = .ok (.if_icmp .ge 12, 3) := by decide +kernel
theorem dX0_beginOrEndFlood_71 : decode cX0_beginOrEndFlood 71 = .ok (.aload_n 0, 1) := by decide +kernel
theorem dX0_beginOrEndFlood_72 : decode cX0_beginOrEndFlood 72 = .ok (.iconst 0, 1) := by decide +kernel
theorem dX0_beginOrEndFlood_73 : decode cX0_beginOrEndFlood 73 = .ok (.putfield 69, 3) := by decide +kernel
theorem dX0_beginOrEndFlood_76 : decode cX0_beginOrEndFlood 76 = .ok (.aload_n 0, 1) := by decide +kernel
theorem dX0_beginOrEndFlood_77 : decode cX0_beginOrEndFlood 77 = .ok (.invokevirtual 149, 3) := by decide +kernel
theorem dX0_beginOrEndFlood_80 : decode cX0_beginOrEndFlood 80 = .ok (.return_, 1) := by decide +kernel
set_option maxRecDepth 20000 in
theorem ggX0_leaveTask_X0_hasTask : GoodIn wsX0_leaveTask wsX0_hasTask := goodIn_r _ [7, 1, 8, 9, 10, 11, 12, 13, 14, 15, 16, 17, 18, 19, 20, 21, 22, 23, 24, 25] (by decide +kernel) (by decide +kernel)
set_option maxRecDepth 20000 in
theorem gX0_leaveTask_X0_hasTask : GoodIn wsX0_leaveTask (wsV RX0 143 RX0 yX0_hasTask wsX0_hasTask) := goodIn_app (goodIn_of _ (by decide +kernel)) ggX0_leaveTask_X0_hasTask
theorem dX0_leaveTask_0 : decode cX0_leaveTask 0 = .ok (.aload_n 0, 1) := by decide +kernel
theorem dX0_leaveTask_1 : decode cX0_leaveTask 1 = .ok (.invokevirtual 143, 3) := by decide +kernel
theorem dX0_leaveTask_4 : decode cX0_leaveTask 4 = .ok (.ifCond .eq 18, 3) := by decide +kernel
theorem dX0_leaveTask_7 : decode cX0_leaveTask 7 = .ok (.aload_n 0, 1) := by decide +kernel
theorem dX0_leaveTask_8 : decode cX0_leaveTask 8 = .ok (.iconst (-1), 1) := by decide +kernel
theorem dX0_leaveTask_9 : decode cX0_leaveTask 9 = .ok (.putfield 38, 3) := by decide +kernel
theorem dX0_leaveTask_12 : decode cX0_leaveTask 12 = .ok (.aload_n 0, 1) := by decide +kernel
theorem dX0_leaveTask_13 : decode cX0_leaveTask 13 = .ok (.dup, 1) := by decide +kernel
theorem dX0_leaveTask_14 : decode cX0_leaveTask 14 = .ok (.getfield 88, 3) := by decide +kernel
theorem dX0_leaveTask_17 : decode cX0_leaveTask 17 = .ok (.iconst 1, 1) := by decide +kernel
theorem dX0_leaveTask_18 : decode cX0_leaveTask 18 = .ok (.iadd, 1) := by decide +kernel
theorem dX0_leaveTask_19 : decode cX0_leaveTask 19 = .ok (.putfield 88, 3) := by decide +kernel
theorem dX0_leaveTask_22 : decode cX0_leaveTask 22 = .ok (.return_, 1) := by decide +kernel
set_option maxRecDepth 20000 in
theorem ggX0_takeTask_X0_hasTask : GoodIn wsX0_takeTask wsX0_hasTask := goodIn_r _ [12, 4, 67, 68, 69, 70, 71, 72, 73, 74, 75, 76, 77, 78, 79, 80, 81, 82, 83, 84] (by decide +kernel) (by decide +kernel)
set_option maxRecDepth 20000 in
theorem gX0_takeTask_X0_hasTask : GoodIn wsX0_takeTask (wsV RX0 143 RX0 yX0_hasTask wsX0_hasTask) := goodIn_app (goodIn_of _ (by decide +kernel)) ggX0_takeTask_X0_hasTask
set_option maxRecDepth 20000 in
theorem ggX0_takeTask_X1_nearestNotOpen : GoodIn wsX0_takeTask wsX1_nearestNotOpen := goodIn_r _ [17, 18, 19, 20, 21, 22, 23, 85, 86, 87, 88, 89, 90] (by decide +kernel) (by decide +kernel)
set_option maxRecDepth 20000 in
theorem gX0_takeTask_X1_nearestNotOpen : GoodIn wsX0_takeTask (wsV RX0 152 RX1 yX1_nearestNotOpen wsX1_nearestNotOpen) := goodIn_app (goodIn_of _ (by decide +kernel)) ggX0_takeTask_X1_nearestNotOpen
set_option maxRecDepth 20000 in
theorem ggX0_takeTask_X0_somethingWaits : GoodIn wsX0_takeTask wsX0_somethingWaits := goodIn_r _ [27, 6, 7, 28, 29, 30, 31, 32, 33, 67, 68, 69, 70, 71, 72, 73, 74, 75, 76, 77, 78, 79, 80, 81, 82, 83, 84, 91, 92, 93, 94] (by decide +kernel) (by decide +kernel)
set_option maxRecDepth 20000 in
theorem gX0_takeTask_X0_somethingWaits : GoodIn wsX0_takeTask (wsV RX0 155 RX0 yX0_somethingWaits wsX0_somethingWaits) := goodIn_app (goodIn_of _ (by decide +kernel)) ggX0_takeTask_X0_somethingWaits
set_option maxRecDepth 20000 in
theorem ggX0_takeTask_X4_size : GoodIn wsX0_takeTask wsX4_size := goodIn_r _ [32, 33, 91, 92, 93, 94] (by decide +kernel) (by decide +kernel)
set_option maxRecDepth 20000 in
theorem gX0_takeTask_X4_size : GoodIn wsX0_takeTask (wsV RX0 123 RX4 yX4_size wsX4_size) := goodIn_app (goodIn_of _ (by decide +kernel)) ggX0_takeTask_X4_size
set_option maxRecDepth 20000 in
theorem ggX0_takeTask_X0_takeFrom : GoodIn wsX0_takeTask wsX0_takeFrom := goodIn_r _ [37, 4, 5, 38, 39, 40, 31, 41, 33, 42, 43, 44, 45, 46, 47, 48, 49, 50, 51, 67, 68, 69, 70, 71, 72, 73, 74, 75, 76, 77, 78, 79, 80, 81, 82, 83, 84, 91, 92, 93, 94] (by decide +kernel) (by decide +kernel)
set_option maxRecDepth 20000 in
theorem gX0_takeTask_X0_takeFrom : GoodIn wsX0_takeTask (wsV RX0 158 RX0 yX0_takeFrom wsX0_takeFrom) := goodIn_app (goodIn_of _ (by decide +kernel)) ggX0_takeTask_X0_takeFrom
set_option maxRecDepth 20000 in
theorem ggX0_takeTask_X0_chosenOrder : GoodIn wsX0_takeTask wsX0_chosenOrder := goodIn_r _ [55, 7, 56, 3, 57, 20, 21, 22, 2, 28, 29, 30, 31, 32, 33, 38, 39, 40, 41, 42, 43, 44, 45, 46, 47, 58, 59, 60, 16, 61, 18, 23, 67, 68, 69, 70, 71, 72, 73, 74, 75, 76, 77, 78, 79, 80, 81, 82, 83, 84, 91, 92, 93, 94, 85, 86, 87, 88, 89, 90] (by decide +kernel) (by decide +kernel)
set_option maxRecDepth 20000 in
theorem gX0_takeTask_X0_chosenOrder : GoodIn wsX0_takeTask (wsV RX0 162 RX0 yX0_chosenOrder wsX0_chosenOrder) := goodIn_app (goodIn_of _ (by decide +kernel)) ggX0_takeTask_X0_chosenOrder
set_option maxRecDepth 20000 in
theorem ggX0_takeTask_X0_endTaskIfDone : GoodIn wsX0_takeTask wsX0_endTaskIfDone := goodIn_r _ [65, 2, 4, 5, 66, 8, 9, 10, 11, 12, 58, 59, 60, 16, 61, 18, 23, 67, 68, 69, 70, 71, 72, 73, 74, 75, 76, 77, 78, 79, 80, 81, 82, 83, 84, 85, 86, 87, 88, 89, 90] (by decide +kernel) (by decide +kernel)
set_option maxRecDepth 20000 in
theorem gX0_takeTask_X0_endTaskIfDone : GoodIn wsX0_takeTask (wsV RX0 165 RX0 yX0_endTaskIfDone wsX0_endTaskIfDone) := goodIn_app (goodIn_of _ (by decide +kernel)) ggX0_takeTask_X0_endTaskIfDone
theorem dX0_takeTask_0 : decode cX0_takeTask 0 = .ok (.aload_n 0, 1) := by decide +kernel
theorem dX0_takeTask_1 : decode cX0_takeTask 1 = .ok (.getfield 69, 3) := by decide +kernel
theorem dX0_takeTask_4 : decode cX0_takeTask 4 = .ok (.ifCond .eq 31, 3) := by decide +kernel
theorem dX0_takeTask_7 : decode cX0_takeTask 7 = .ok (.aload_n 0, 1) := by decide +kernel
theorem dX0_takeTask_8 : decode cX0_takeTask 8 = .ok (.invokevirtual 143, 3) := by decide +kernel
theorem dX0_takeTask_11 : decode cX0_takeTask 11 = .ok (.ifCond .ne 24, 3) := by decide +kernel
theorem dX0_takeTask_14 : decode cX0_takeTask 14 = .ok (.aload_n 0, 1) := by decide +kernel
theorem dX0_takeTask_15 : decode cX0_takeTask 15 = .ok (.aload_n 0, 1) := by decide +kernel
theorem dX0_takeTask_16 : decode cX0_takeTask 16 = .ok (.getfield 12, 3) := by decide +kernel
theorem dX0_takeTask_19 : decode cX0_takeTask 19 = .ok (.aload_n 0, 1) := by decide +kernel
theorem dX0_takeTask_20 : decode cX0_takeTask 20 = .ok (.getfield 76, 3) := by decide +kernel
theorem dX0_takeTask_23 : decode cX0_takeTask 23 = .ok (.invokevirtual 152, 3) := by decide +kernel
theorem dX0_takeTask_26 : decode cX0_takeTask 26 = .ok (.putfield 38, 3) := by decide +kernel
theorem dX0_takeTask_29 : decode cX0_takeTask 29 = .ok (.aload_n 0, 1) := by decide +kernel
theorem dX0_takeTask_30 : decode cX0_takeTask 30 = .ok (.bipush 10, 2) := by decide +kernel
theorem dX0_takeTask_32 : decode cX0_takeTask 32 = .ok (.putfield 79, 3) := by decide +kernel
theorem dX0_takeTask_35 : decode cX0_takeTask 35 = .ok (.iconst 0, 1) := by decide +kernel
theorem dX0_takeTask_36 : decode cX0_takeTask 36 = .ok (.istore_n 1, 1) := by decide +kernel
theorem dX0_takeTask_37 : decode cX0_takeTask 37 = .ok (.iload_n 1, 1) := by decide +kernel
theorem dX0_takeTask_38 : decode cX0_takeTask 38 = .ok (.bipush 12, 2) := by decide +kernel
theorem dX0_takeTask_40 : decode cX0_takeTask 40 = .ok (.if_icmp .ge 68, 3) := by decide +kernel
theorem dX0_takeTask_43 : decode cX0_takeTask 43 = .ok (.aload_n 0, 1) := by decide +kernel
theorem dX0_takeTask_44 : decode cX0_takeTask 44 = .ok (.getfield 69, 3) := by decide +kernel
theorem dX0_takeTask_47 : decode cX0_takeTask 47 = .ok (.ifCond .ne 61, 3) := by decide +kernel
theorem dX0_takeTask_50 : decode cX0_takeTask 50 = .ok (.aload_n 0, 1) := by decide +kernel
theorem dX0_takeTask_51 : decode cX0_takeTask 51 = .ok (.invokevirtual 143, 3) := by decide +kernel
theorem dX0_takeTask_54 : decode cX0_takeTask 54 = .ok (.ifCond .ne 54, 3) := by decide +kernel
theorem dX0_takeTask_57 : decode cX0_takeTask 57 = .ok (.aload_n 0, 1) := by decide +kernel
theorem dX0_takeTask_58 : decode cX0_takeTask 58 = .ok (.invokevirtual 155, 3) := by decide +kernel
theorem dX0_takeTask_61 : decode cX0_takeTask 61 = .ok (.ifCond .eq 47, 3) := by decide +kernel
theorem dX0_takeTask_64 : decode cX0_takeTask 64 = .ok (.aload_n 0, 1) := by decide +kernel
theorem dX0_takeTask_65 : decode cX0_takeTask 65 = .ok (.getfield 27, 3) := by decide +kernel
theorem dX0_takeTask_68 : decode cX0_takeTask 68 = .ok (.invokevirtual 123, 3) := by decide +kernel
theorem dX0_takeTask_71 : decode cX0_takeTask 71 = .ok (.ifCond .le 15, 3) := by decide +kernel
theorem dX0_takeTask_74 : decode cX0_takeTask 74 = .ok (.aload_n 0, 1) := by decide +kernel
theorem dX0_takeTask_75 : decode cX0_takeTask 75 = .ok (.aload_n 0, 1) := by decide +kernel
theorem dX0_takeTask_76 : decode cX0_takeTask 76 = .ok (.getfield 27, 3) := by decide +kernel
theorem dX0_takeTask_79 : decode cX0_takeTask 79 = .ok (.iconst 0, 1) := by decide +kernel
theorem dX0_takeTask_80 : decode cX0_takeTask 80 = .ok (.invokevirtual 158, 3) := by decide +kernel
theorem dX0_takeTask_83 : decode cX0_takeTask 83 = .ok (.goto 15, 3) := by decide +kernel
theorem dX0_takeTask_86 : decode cX0_takeTask 86 = .ok (.aload_n 0, 1) := by decide +kernel
theorem dX0_takeTask_87 : decode cX0_takeTask 87 = .ok (.aload_n 0, 1) := by decide +kernel
theorem dX0_takeTask_88 : decode cX0_takeTask 88 = .ok (.getfield 23, 3) := by decide +kernel
theorem dX0_takeTask_91 : decode cX0_takeTask 91 = .ok (.aload_n 0, 1) := by decide +kernel
theorem dX0_takeTask_92 : decode cX0_takeTask 92 = .ok (.invokevirtual 162, 3) := by decide +kernel
theorem dX0_takeTask_95 : decode cX0_takeTask 95 = .ok (.invokevirtual 158, 3) := by decide +kernel
theorem dX0_takeTask_98 : decode cX0_takeTask 98 = .ok (.aload_n 0, 1) := by decide +kernel
theorem dX0_takeTask_99 : decode cX0_takeTask 99 = .ok (.invokevirtual 165, 3) := by decide +kernel
theorem dX0_takeTask_102 : decode cX0_takeTask 102 = .ok (.iinc 1 1, 3) := by decide +kernel
theorem dX0_takeTask_105 : decode cX0_takeTask 105 = .ok (.goto (-68), 3) := by decide +kernel
theorem dX0_takeTask_108 : decode cX0_takeTask 108 = .ok (.return_, 1) := by decide +kernel
set_option maxRecDepth 20000 in
theorem ggX0_takeFrom_X4_gateAt : GoodIn wsX0_takeFrom wsX4_gateAt := goodIn_r _ [7, 8, 9, 37, 38, 39, 40] (by decide +kernel) (by decide +kernel)
set_option maxRecDepth 20000 in
theorem gX0_takeFrom_X4_gateAt : GoodIn wsX0_takeFrom (wsV RX0 168 RX4 yX4_gateAt wsX4_gateAt) := goodIn_app (goodIn_of _ (by decide +kernel)) ggX0_takeFrom_X4_gateAt
set_option maxRecDepth 20000 in
theorem ggX0_takeFrom_X4_openingAt : GoodIn wsX0_takeFrom wsX4_openingAt := goodIn_r _ [13, 8, 14, 37, 38, 39, 40] (by decide +kernel) (by decide +kernel)
set_option maxRecDepth 20000 in
theorem gX0_takeFrom_X4_openingAt : GoodIn wsX0_takeFrom (wsV RX0 124 RX4 yX4_openingAt wsX4_openingAt) := goodIn_app (goodIn_of _ (by decide +kernel)) ggX0_takeFrom_X4_openingAt
set_option maxRecDepth 20000 in
theorem ggX0_takeFrom_X4_removeAt : GoodIn wsX0_takeFrom wsX4_removeAt := goodIn_r _ [18, 8, 9, 14, 37, 38, 39, 40] (by decide +kernel) (by decide +kernel)
set_option maxRecDepth 20000 in
theorem gX0_takeFrom_X4_removeAt : GoodIn wsX0_takeFrom (wsV RX0 117 RX4 yX4_removeAt wsX4_removeAt) := goodIn_app (goodIn_of _ (by decide +kernel)) ggX0_takeFrom_X4_removeAt
theorem dX0_takeFrom_0 : decode cX0_takeFrom 0 = .ok (.aload_n 0, 1) := by decide +kernel
theorem dX0_takeFrom_1 : decode cX0_takeFrom 1 = .ok (.aload_n 1, 1) := by decide +kernel
theorem dX0_takeFrom_2 : decode cX0_takeFrom 2 = .ok (.iload_n 2, 1) := by decide +kernel
theorem dX0_takeFrom_3 : decode cX0_takeFrom 3 = .ok (.invokevirtual 168, 3) := by decide +kernel
theorem dX0_takeFrom_6 : decode cX0_takeFrom 6 = .ok (.putfield 38, 3) := by decide +kernel
theorem dX0_takeFrom_9 : decode cX0_takeFrom 9 = .ok (.aload_n 0, 1) := by decide +kernel
theorem dX0_takeFrom_10 : decode cX0_takeFrom 10 = .ok (.aload_n 1, 1) := by decide +kernel
theorem dX0_takeFrom_11 : decode cX0_takeFrom 11 = .ok (.iload_n 2, 1) := by decide +kernel
theorem dX0_takeFrom_12 : decode cX0_takeFrom 12 = .ok (.invokevirtual 124, 3) := by decide +kernel
theorem dX0_takeFrom_15 : decode cX0_takeFrom 15 = .ok (.putfield 79, 3) := by decide +kernel
theorem dX0_takeFrom_18 : decode cX0_takeFrom 18 = .ok (.aload_n 1, 1) := by decide +kernel
theorem dX0_takeFrom_19 : decode cX0_takeFrom 19 = .ok (.iload_n 2, 1) := by decide +kernel
theorem dX0_takeFrom_20 : decode cX0_takeFrom 20 = .ok (.invokevirtual 117, 3) := by decide +kernel
theorem dX0_takeFrom_23 : decode cX0_takeFrom 23 = .ok (.return_, 1) := by decide +kernel
set_option maxRecDepth 20000 in
theorem ggX0_chosenOrder_X4_size : GoodIn wsX0_chosenOrder wsX4_size := goodIn_r _ [13, 14, 50, 51, 52, 53] (by decide +kernel) (by decide +kernel)
set_option maxRecDepth 20000 in
theorem gX0_chosenOrder_X4_size : GoodIn wsX0_chosenOrder (wsV RX0 123 RX4 yX4_size wsX4_size) := goodIn_app (goodIn_of _ (by decide +kernel)) ggX0_chosenOrder_X4_size
set_option maxRecDepth 20000 in
theorem ggX0_chosenOrder_X4_gateAt : GoodIn wsX0_chosenOrder wsX4_gateAt := goodIn_r _ [18, 14, 19, 50, 51, 52, 53] (by decide +kernel) (by decide +kernel)
set_option maxRecDepth 20000 in
theorem gX0_chosenOrder_X4_gateAt : GoodIn wsX0_chosenOrder (wsV RX0 168 RX4 yX4_gateAt wsX4_gateAt) := goodIn_app (goodIn_of _ (by decide +kernel)) ggX0_chosenOrder_X4_gateAt
set_option maxRecDepth 20000 in
theorem ggX0_chosenOrder_X4_openingAt : GoodIn wsX0_chosenOrder wsX4_openingAt := goodIn_r _ [23, 14, 24, 50, 51, 52, 53] (by decide +kernel) (by decide +kernel)
set_option maxRecDepth 20000 in
theorem gX0_chosenOrder_X4_openingAt : GoodIn wsX0_chosenOrder (wsV RX0 124 RX4 yX4_openingAt wsX4_openingAt) := goodIn_app (goodIn_of _ (by decide +kernel)) ggX0_chosenOrder_X4_openingAt
set_option maxRecDepth 20000 in
theorem ggX0_chosenOrder_X1_opening : GoodIn wsX0_chosenOrder wsX1_opening := goodIn_r _ [29, 30, 31, 54, 55, 56, 57, 58, 59] (by decide +kernel) (by decide +kernel)
set_option maxRecDepth 20000 in
theorem gX0_chosenOrder_X1_opening : GoodIn wsX0_chosenOrder (wsV RX0 176 RX1 yX1_opening wsX1_opening) := goodIn_app (goodIn_of _ (by decide +kernel)) ggX0_chosenOrder_X1_opening
theorem dX0_chosenOrder_0 : decode cX0_chosenOrder 0 = .ok (.iconst (-1), 1) := by decide +kernel
theorem dX0_chosenOrder_1 : decode cX0_chosenOrder 1 = .ok (.istore_n 1, 1) := by decide +kernel
theorem dX0_chosenOrder_2 : decode cX0_chosenOrder 2 = .ok (.iconst 0, 1) := by decide +kernel
theorem dX0_chosenOrder_3 : decode cX0_chosenOrder 3 = .ok (.istore_n 2, 1) := by decide +kernel
theorem dX0_chosenOrder_4 : decode cX0_chosenOrder 4 = .ok (.iconst 0, 1) := by decide +kernel
theorem dX0_chosenOrder_5 : decode cX0_chosenOrder 5 = .ok (.istore_n 3, 1) := by decide +kernel
theorem dX0_chosenOrder_6 : decode cX0_chosenOrder 6 = .ok (.iload_n 3, 1) := by decide +kernel
theorem dX0_chosenOrder_7 : decode cX0_chosenOrder 7 = .ok (.aload_n 0, 1) := by decide +kernel
theorem dX0_chosenOrder_8 : decode cX0_chosenOrder 8 = .ok (.getfield 23, 3) := by decide +kernel
theorem dX0_chosenOrder_11 : decode cX0_chosenOrder 11 = .ok (.invokevirtual 123, 3) := by decide +kernel
theorem dX0_chosenOrder_14 : decode cX0_chosenOrder 14 = .ok (.if_icmp .ge 105, 3) := by decide +kernel
theorem dX0_chosenOrder_17 : decode cX0_chosenOrder 17 = .ok (.iload_n 3, 1) := by decide +kernel
theorem dX0_chosenOrder_18 : decode cX0_chosenOrder 18 = .ok (.bipush 8, 2) := by decide +kernel
theorem dX0_chosenOrder_20 : decode cX0_chosenOrder 20 = .ok (.if_icmp .ge 99, 3) := by decide +kernel
theorem dX0_chosenOrder_23 : decode cX0_chosenOrder 23 = .ok (.iconst 0, 1) := by decide +kernel
theorem dX0_chosenOrder_24 : decode cX0_chosenOrder 24 = .ok (.istore 4, 2) := by decide +kernel
theorem dX0_chosenOrder_26 : decode cX0_chosenOrder 26 = .ok (.aload_n 0, 1) := by decide +kernel
theorem dX0_chosenOrder_27 : decode cX0_chosenOrder 27 = .ok (.getfield 30, 3) := by decide +kernel
theorem dX0_chosenOrder_30 : decode cX0_chosenOrder 30 = .ok (.iconst 2, 1) := by decide +kernel
theorem dX0_chosenOrder_31 : decode cX0_chosenOrder 31 = .ok (.iaload, 1) := by decide +kernel
theorem dX0_chosenOrder_32 : decode cX0_chosenOrder 32 = .ok (.iconst 1, 1) := by decide +kernel
theorem dX0_chosenOrder_33 : decode cX0_chosenOrder 33 = .ok (.if_icmp .ne 24, 3) := by decide +kernel
theorem dX0_chosenOrder_36 : decode cX0_chosenOrder 36 = .ok (.aload_n 0, 1) := by decide +kernel
theorem dX0_chosenOrder_37 : decode cX0_chosenOrder 37 = .ok (.getfield 23, 3) := by decide +kernel
theorem dX0_chosenOrder_40 : decode cX0_chosenOrder 40 = .ok (.iload_n 3, 1) := by decide +kernel
theorem dX0_chosenOrder_41 : decode cX0_chosenOrder 41 = .ok (.invokevirtual 168, 3) := by decide +kernel
theorem dX0_chosenOrder_44 : decode cX0_chosenOrder 44 = .ok (.aload_n 0, 1) := by decide +kernel
theorem dX0_chosenOrder_45 : decode cX0_chosenOrder 45 = .ok (.getfield 76, 3) := by decide +kernel
theorem dX0_chosenOrder_48 : decode cX0_chosenOrder 48 = .ok (.isub, 1) := by decide +kernel
theorem dX0_chosenOrder_49 : decode cX0_chosenOrder 49 = .ok (.invokestatic 171, 3) := by decide +kernel
theorem dX0_chosenOrder_52 : decode cX0_chosenOrder 52 = .ok (.istore 4, 2) := by decide +kernel
theorem dX0_chosenOrder_54 : decode cX0_chosenOrder 54 = .ok (.goto 43, 3) := by decide +kernel
theorem dX0_chosenOrder_57 : decode cX0_chosenOrder 57 = .ok (.aload_n 0, 1) := by decide +kernel
theorem dX0_chosenOrder_58 : decode cX0_chosenOrder 58 = .ok (.getfield 30, 3) := by decide +kernel
theorem dX0_chosenOrder_61 : decode cX0_chosenOrder 61 = .ok (.iconst 2, 1) := by decide +kernel
theorem dX0_chosenOrder_62 : decode cX0_chosenOrder 62 = .ok (.iaload, 1) := by decide +kernel
theorem dX0_chosenOrder_63 : decode cX0_chosenOrder 63 = .ok (.iconst 2, 1) := by decide +kernel
theorem dX0_chosenOrder_64 : decode cX0_chosenOrder 64 = .ok (.if_icmp .ne 33, 3) := by decide +kernel
theorem dX0_chosenOrder_67 : decode cX0_chosenOrder 67 = .ok (.aload_n 0, 1) := by decide +kernel
theorem dX0_chosenOrder_68 : decode cX0_chosenOrder 68 = .ok (.getfield 23, 3) := by decide +kernel
theorem dX0_chosenOrder_71 : decode cX0_chosenOrder 71 = .ok (.iload_n 3, 1) := by decide +kernel
theorem dX0_chosenOrder_72 : decode cX0_chosenOrder 72 = .ok (.invokevirtual 124, 3) := by decide +kernel
theorem dX0_chosenOrder_75 : decode cX0_chosenOrder 75 = .ok (.aload_n 0, 1) := by decide +kernel
theorem dX0_chosenOrder_76 : decode cX0_chosenOrder 76 = .ok (.getfield 12, 3) := by decide +kernel
theorem dX0_chosenOrder_79 : decode cX0_chosenOrder 79 = .ok (.aload_n 0, 1) := by decide +kernel
theorem dX0_chosenOrder_80 : decode cX0_chosenOrder 80 = .ok (.getfield 23, 3) := by decide +kernel
theorem dX0_chosenOrder_83 : decode cX0_chosenOrder 83 = .ok (.iload_n 3, 1) := by decide +kernel
theorem dX0_chosenOrder_84 : decode cX0_chosenOrder 84 = .ok (.invokevirtual 168, 3) := by decide +kernel
theorem dX0_chosenOrder_87 : decode cX0_chosenOrder 87 = .ok (.invokevirtual 176, 3) := by decide +kernel
theorem dX0_chosenOrder_90 : decode cX0_chosenOrder 90 = .ok (.isub, 1) := by decide +kernel
theorem dX0_chosenOrder_91 : decode cX0_chosenOrder 91 = .ok (.invokestatic 171, 3) := by decide +kernel
theorem dX0_chosenOrder_94 : decode cX0_chosenOrder 94 = .ok (.ineg, 1) := by decide +kernel
theorem dX0_chosenOrder_95 : decode cX0_chosenOrder 95 = .ok (.istore 4, 2) := by decide +kernel
theorem dX0_chosenOrder_97 : decode cX0_chosenOrder 97 = .ok (.iload_n 1, 1) := by decide +kernel
theorem dX0_chosenOrder_98 : decode cX0_chosenOrder 98 = .ok (.iconst (-1), 1) := by decide +kernel
theorem dX0_chosenOrder_99 : decode cX0_chosenOrder 99 = .ok (.if_icmp .eq 9, 3) := by decide +kernel
theorem dX0_chosenOrder_102 : decode cX0_chosenOrder 102 = .ok (.iload 4, 2) := by decide +kernel
theorem dX0_chosenOrder_104 : decode cX0_chosenOrder 104 = .ok (.iload_n 2, 1) := by decide +kernel
theorem dX0_chosenOrder_105 : decode cX0_chosenOrder 105 = .ok (.if_icmp .ge 8, 3) := by decide +kernel
theorem dX0_chosenOrder_108 : decode cX0_chosenOrder 108 = .ok (.iload_n 3, 1) := by decide +kernel
theorem dX0_chosenOrder_109 : decode cX0_chosenOrder 109 = .ok (.istore_n 1, 1) := by decide +kernel
theorem dX0_chosenOrder_110 : decode cX0_chosenOrder 110 = .ok (.iload 4, 2) := by decide +kernel
theorem dX0_chosenOrder_112 : decode cX0_chosenOrder 112 = .ok (.istore_n 2, 1) := by decide +kernel
theorem dX0_chosenOrder_113 : decode cX0_chosenOrder 113 = .ok (.iinc 3 1, 3) := by decide +kernel
theorem dX0_chosenOrder_116 : decode cX0_chosenOrder 116 = .ok (.goto (-110), 3) := by decide +kernel
theorem dX0_chosenOrder_119 : decode cX0_chosenOrder 119 = .ok (.iload_n 1, 1) := by decide +kernel
theorem dX0_chosenOrder_120 : decode cX0_chosenOrder 120 = .ok (.ireturn, 1) := by decide +kernel
set_option maxRecDepth 20000 in
theorem ggX0_work_X0_hasTask : GoodIn wsX0_work wsX0_hasTask := goodIn_r _ [10, 3, 40, 41, 42, 43, 44, 45, 46, 47, 48, 49, 50, 51, 52, 53, 54, 55, 56, 57] (by decide +kernel) (by decide +kernel)
set_option maxRecDepth 20000 in
theorem gX0_work_X0_hasTask : GoodIn wsX0_work (wsV RX0 143 RX0 yX0_hasTask wsX0_hasTask) := goodIn_app (goodIn_of _ (by decide +kernel)) ggX0_work_X0_hasTask
set_option maxRecDepth 20000 in
theorem ggX0_work_X1_moveTowards : GoodIn wsX0_work wsX1_moveTowards := goodIn_r _ [15, 16, 17, 18, 19, 20, 21, 22, 23, 24, 25, 26, 27, 28, 14, 29, 30, 58, 59, 60, 61, 62, 63] (by decide +kernel) (by decide +kernel)
set_option maxRecDepth 20000 in
theorem gX0_work_X1_moveTowards : GoodIn wsX0_work (wsV RX0 179 RX1 yX1_moveTowards wsX1_moveTowards) := goodIn_app (goodIn_of _ (by decide +kernel)) ggX0_work_X1_moveTowards
set_option maxRecDepth 20000 in
theorem ggX0_work_X0_endTaskIfDone : GoodIn wsX0_work wsX0_endTaskIfDone := goodIn_r _ [34, 4, 3, 5, 35, 6, 7, 8, 9, 10, 36, 37, 38, 14, 39, 30, 16, 40, 41, 42, 43, 44, 45, 46, 47, 48, 49, 50, 51, 52, 53, 54, 55, 56, 57, 58, 59, 60, 61, 62, 63] (by decide +kernel) (by decide +kernel)
set_option maxRecDepth 20000 in
theorem gX0_work_X0_endTaskIfDone : GoodIn wsX0_work (wsV RX0 165 RX0 yX0_endTaskIfDone wsX0_endTaskIfDone) := goodIn_app (goodIn_of _ (by decide +kernel)) ggX0_work_X0_endTaskIfDone
theorem dX0_work_0 : decode cX0_work 0 = .ok (.aload_n 0, 1) := by decide +kernel
theorem dX0_work_1 : decode cX0_work 1 = .ok (.invokevirtual 143, 3) := by decide +kernel
theorem dX0_work_4 : decode cX0_work 4 = .ok (.ifCond .ne 4, 3) := by decide +kernel
theorem dX0_work_7 : decode cX0_work 7 = .ok (.return_, 1) := by decide +kernel
theorem dX0_work_8 : decode cX0_work 8 = .ok (.aload_n 0, 1) := by decide +kernel
theorem dX0_work_9 : decode cX0_work 9 = .ok (.dup, 1) := by decide +kernel
theorem dX0_work_10 : decode cX0_work 10 = .ok (.getfield 82, 3) := by decide +kernel
theorem dX0_work_13 : decode cX0_work 13 = .ok (.iconst 1, 1) := by decide +kernel
theorem dX0_work_14 : decode cX0_work 14 = .ok (.iadd, 1) := by decide +kernel
theorem dX0_work_15 : decode cX0_work 15 = .ok (.putfield 82, 3) := by decide +kernel
theorem dX0_work_18 : decode cX0_work 18 = .ok (.aload_n 0, 1) := by decide +kernel
theorem dX0_work_19 : decode cX0_work 19 = .ok (.getfield 76, 3) := by decide +kernel
theorem dX0_work_22 : decode cX0_work 22 = .ok (.aload_n 0, 1) := by decide +kernel
theorem dX0_work_23 : decode cX0_work 23 = .ok (.getfield 38, 3) := by decide +kernel
theorem dX0_work_26 : decode cX0_work 26 = .ok (.if_icmp .ge 16, 3) := by decide +kernel
theorem dX0_work_29 : decode cX0_work 29 = .ok (.aload_n 0, 1) := by decide +kernel
theorem dX0_work_30 : decode cX0_work 30 = .ok (.dup, 1) := by decide +kernel
theorem dX0_work_31 : decode cX0_work 31 = .ok (.getfield 76, 3) := by decide +kernel
theorem dX0_work_34 : decode cX0_work 34 = .ok (.iconst 1, 1) := by decide +kernel
theorem dX0_work_35 : decode cX0_work 35 = .ok (.iadd, 1) := by decide +kernel
theorem dX0_work_36 : decode cX0_work 36 = .ok (.putfield 76, 3) := by decide +kernel
theorem dX0_work_39 : decode cX0_work 39 = .ok (.goto 46, 3) := by decide +kernel
theorem dX0_work_42 : decode cX0_work 42 = .ok (.aload_n 0, 1) := by decide +kernel
theorem dX0_work_43 : decode cX0_work 43 = .ok (.getfield 76, 3) := by decide +kernel
theorem dX0_work_46 : decode cX0_work 46 = .ok (.aload_n 0, 1) := by decide +kernel
theorem dX0_work_47 : decode cX0_work 47 = .ok (.getfield 38, 3) := by decide +kernel
theorem dX0_work_50 : decode cX0_work 50 = .ok (.if_icmp .le 16, 3) := by decide +kernel
theorem dX0_work_53 : decode cX0_work 53 = .ok (.aload_n 0, 1) := by decide +kernel
theorem dX0_work_54 : decode cX0_work 54 = .ok (.dup, 1) := by decide +kernel
theorem dX0_work_55 : decode cX0_work 55 = .ok (.getfield 76, 3) := by decide +kernel
theorem dX0_work_58 : decode cX0_work 58 = .ok (.iconst 1, 1) := by decide +kernel
theorem dX0_work_59 : decode cX0_work 59 = .ok (.isub, 1) := by decide +kernel
theorem dX0_work_60 : decode cX0_work 60 = .ok (.putfield 76, 3) := by decide +kernel
theorem dX0_work_63 : decode cX0_work 63 = .ok (.goto 22, 3) := by decide +kernel
theorem dX0_work_66 : decode cX0_work 66 = .ok (.aload_n 0, 1) := by decide +kernel
theorem dX0_work_67 : decode cX0_work 67 = .ok (.getfield 12, 3) := by decide +kernel
theorem dX0_work_70 : decode cX0_work 70 = .ok (.aload_n 0, 1) := by decide +kernel
theorem dX0_work_71 : decode cX0_work 71 = .ok (.getfield 38, 3) := by decide +kernel
theorem dX0_work_74 : decode cX0_work 74 = .ok (.aload_n 0, 1) := by decide +kernel
theorem dX0_work_75 : decode cX0_work 75 = .ok (.getfield 79, 3) := by decide +kernel
theorem dX0_work_78 : decode cX0_work 78 = .ok (.invokevirtual 179, 3) := by decide +kernel
theorem dX0_work_81 : decode cX0_work 81 = .ok (.aload_n 0, 1) := by decide +kernel
theorem dX0_work_82 : decode cX0_work 82 = .ok (.invokevirtual 165, 3) := by decide +kernel
theorem dX0_work_85 : decode cX0_work 85 = .ok (.return_, 1) := by decide +kernel
set_option maxRecDepth 20000 in
theorem ggX0_endTaskIfDone_X0_hasTask : GoodIn wsX0_endTaskIfDone wsX0_hasTask := goodIn_r _ [9, 2, 17, 18, 19, 20, 21, 22, 23, 24, 25, 26, 27, 28, 29, 30, 31, 32, 33, 34] (by decide +kernel) (by decide +kernel)
set_option maxRecDepth 20000 in
theorem gX0_endTaskIfDone_X0_hasTask : GoodIn wsX0_endTaskIfDone (wsV RX0 143 RX0 yX0_hasTask wsX0_hasTask) := goodIn_app (goodIn_of _ (by decide +kernel)) ggX0_endTaskIfDone_X0_hasTask
set_option maxRecDepth 20000 in
theorem ggX0_endTaskIfDone_X1_opening : GoodIn wsX0_endTaskIfDone wsX1_opening := goodIn_r _ [14, 15, 16, 35, 36, 37, 38, 39, 40] (by decide +kernel) (by decide +kernel)
set_option maxRecDepth 20000 in
theorem gX0_endTaskIfDone_X1_opening : GoodIn wsX0_endTaskIfDone (wsV RX0 176 RX1 yX1_opening wsX1_opening) := goodIn_app (goodIn_of _ (by decide +kernel)) ggX0_endTaskIfDone_X1_opening
theorem dX0_endTaskIfDone_0 : decode cX0_endTaskIfDone 0 = .ok (.aload_n 0, 1) := by decide +kernel
theorem dX0_endTaskIfDone_1 : decode cX0_endTaskIfDone 1 = .ok (.invokevirtual 143, 3) := by decide +kernel
theorem dX0_endTaskIfDone_4 : decode cX0_endTaskIfDone 4 = .ok (.ifCond .eq 36, 3) := by decide +kernel
theorem dX0_endTaskIfDone_7 : decode cX0_endTaskIfDone 7 = .ok (.aload_n 0, 1) := by decide +kernel
theorem dX0_endTaskIfDone_8 : decode cX0_endTaskIfDone 8 = .ok (.getfield 12, 3) := by decide +kernel
theorem dX0_endTaskIfDone_11 : decode cX0_endTaskIfDone 11 = .ok (.aload_n 0, 1) := by decide +kernel
theorem dX0_endTaskIfDone_12 : decode cX0_endTaskIfDone 12 = .ok (.getfield 38, 3) := by decide +kernel
theorem dX0_endTaskIfDone_15 : decode cX0_endTaskIfDone 15 = .ok (.invokevirtual 176, 3) := by decide +kernel
theorem dX0_endTaskIfDone_18 : decode cX0_endTaskIfDone 18 = .ok (.aload_n 0, 1) := by decide +kernel
theorem dX0_endTaskIfDone_19 : decode cX0_endTaskIfDone 19 = .ok (.getfield 79, 3) := by decide +kernel
theorem dX0_endTaskIfDone_22 : decode cX0_endTaskIfDone 22 = .ok (.if_icmp .ne 18, 3) := by decide +kernel
theorem dX0_endTaskIfDone_25 : decode cX0_endTaskIfDone 25 = .ok (.aload_n 0, 1) := by decide +kernel
theorem dX0_endTaskIfDone_26 : decode cX0_endTaskIfDone 26 = .ok (.iconst (-1), 1) := by decide +kernel
theorem dX0_endTaskIfDone_27 : decode cX0_endTaskIfDone 27 = .ok (.putfield 38, 3) := by decide +kernel
theorem dX0_endTaskIfDone_30 : decode cX0_endTaskIfDone 30 = .ok (.aload_n 0, 1) := by decide +kernel
theorem dX0_endTaskIfDone_31 : decode cX0_endTaskIfDone 31 = .ok (.dup, 1) := by decide +kernel
theorem dX0_endTaskIfDone_32 : decode cX0_endTaskIfDone 32 = .ok (.getfield 85, 3) := by decide +kernel
theorem dX0_endTaskIfDone_35 : decode cX0_endTaskIfDone 35 = .ok (.iconst 1, 1) := by decide +kernel
theorem dX0_endTaskIfDone_36 : decode cX0_endTaskIfDone 36 = .ok (.iadd, 1) := by decide +kernel
theorem dX0_endTaskIfDone_37 : decode cX0_endTaskIfDone 37 = .ok (.putfield 85, 3) := by decide +kernel
theorem dX0_endTaskIfDone_40 : decode cX0_endTaskIfDone 40 = .ok (.return_, 1) := by decide +kernel
set_option maxRecDepth 20000 in
theorem ggX0_letWaterFlow_X0_head : GoodIn wsX0_letWaterFlow wsX0_head := goodIn_r _ [15, 1, 38, 39, 40, 41, 42, 43, 44, 45, 46, 47, 48, 49, 50, 51, 52, 53, 54, 55] (by decide +kernel) (by decide +kernel)
set_option maxRecDepth 20000 in
theorem gX0_letWaterFlow_X0_head : GoodIn wsX0_letWaterFlow (wsV RX0 182 RX0 yX0_head wsX0_head) := goodIn_app (goodIn_of _ (by decide +kernel)) ggX0_letWaterFlow_X0_head
set_option maxRecDepth 20000 in
theorem ggX0_letWaterFlow_X1_size : GoodIn wsX0_letWaterFlow wsX1_size := goodIn_r _ [20, 21, 56, 57, 58, 59, 60, 61] (by decide +kernel) (by decide +kernel)
set_option maxRecDepth 20000 in
theorem gX0_letWaterFlow_X1_size : GoodIn wsX0_letWaterFlow (wsV RX0 101 RX1 yX1_size wsX1_size) := goodIn_app (goodIn_of _ (by decide +kernel)) ggX0_letWaterFlow_X1_size
set_option maxRecDepth 20000 in
theorem ggX0_letWaterFlow_X1_flow : GoodIn wsX0_letWaterFlow wsX1_flow := goodIn_r _ [25, 26, 27, 28, 29, 30, 31, 19, 32, 21, 56, 57, 58, 59, 60, 61] (by decide +kernel) (by decide +kernel)
set_option maxRecDepth 20000 in
theorem gX0_letWaterFlow_X1_flow : GoodIn wsX0_letWaterFlow (wsV RX0 185 RX1 yX1_flow wsX1_flow) := goodIn_app (goodIn_of _ (by decide +kernel)) ggX0_letWaterFlow_X1_flow
set_option maxRecDepth 20000 in
theorem ggX0_letWaterFlow_X1_letOut : GoodIn wsX0_letWaterFlow wsX1_letOut := goodIn_r _ [36, 37, 29, 30, 31, 19, 32, 21, 56, 57, 58, 59, 60, 61] (by decide +kernel) (by decide +kernel)
set_option maxRecDepth 20000 in
theorem gX0_letWaterFlow_X1_letOut : GoodIn wsX0_letWaterFlow (wsV RX0 192 RX1 yX1_letOut wsX1_letOut) := goodIn_app (goodIn_of _ (by decide +kernel)) ggX0_letWaterFlow_X1_letOut
theorem dX0_letWaterFlow_0 : decode cX0_letWaterFlow 0 = .ok (.aload_n 0, 1) := by decide +kernel
theorem dX0_letWaterFlow_1 : decode cX0_letWaterFlow 1 = .ok (.invokevirtual 182, 3) := by decide +kernel
theorem dX0_letWaterFlow_4 : decode cX0_letWaterFlow 4 = .ok (.istore_n 1, 1) := by decide +kernel
theorem dX0_letWaterFlow_5 : decode cX0_letWaterFlow 5 = .ok (.aload_n 0, 1) := by decide +kernel
theorem dX0_letWaterFlow_6 : decode cX0_letWaterFlow 6 = .ok (.dup, 1) := by decide +kernel
theorem dX0_letWaterFlow_7 : decode cX0_letWaterFlow 7 = .ok (.getfield 34, 3) := by decide +kernel
theorem dX0_letWaterFlow_10 : decode cX0_letWaterFlow 10 = .ok (.aload_n 0, 1) := by decide +kernel
theorem dX0_letWaterFlow_11 : decode cX0_letWaterFlow 11 = .ok (.getfield 54, 3) := by decide +kernel
theorem dX0_letWaterFlow_14 : decode cX0_letWaterFlow 14 = .ok (.iadd, 1) := by decide +kernel
theorem dX0_letWaterFlow_15 : decode cX0_letWaterFlow 15 = .ok (.putfield 34, 3) := by decide +kernel
theorem dX0_letWaterFlow_18 : decode cX0_letWaterFlow 18 = .ok (.aload_n 0, 1) := by decide +kernel
theorem dX0_letWaterFlow_19 : decode cX0_letWaterFlow 19 = .ok (.dup, 1) := by decide +kernel
theorem dX0_letWaterFlow_20 : decode cX0_letWaterFlow 20 = .ok (.getfield 57, 3) := by decide +kernel
theorem dX0_letWaterFlow_23 : decode cX0_letWaterFlow 23 = .ok (.aload_n 0, 1) := by decide +kernel
theorem dX0_letWaterFlow_24 : decode cX0_letWaterFlow 24 = .ok (.getfield 54, 3) := by decide +kernel
theorem dX0_letWaterFlow_27 : decode cX0_letWaterFlow 27 = .ok (.iadd, 1) := by decide +kernel
theorem dX0_letWaterFlow_28 : decode cX0_letWaterFlow 28 = .ok (.putfield 57, 3) := by decide +kernel
theorem dX0_letWaterFlow_31 : decode cX0_letWaterFlow 31 = .ok (.iconst 0, 1) := by decide +kernel
theorem dX0_letWaterFlow_32 : decode cX0_letWaterFlow 32 = .ok (.istore_n 2, 1) := by decide +kernel
theorem dX0_letWaterFlow_33 : decode cX0_letWaterFlow 33 = .ok (.iload_n 2, 1) := by decide +kernel
theorem dX0_letWaterFlow_34 : decode cX0_letWaterFlow 34 = .ok (.aload_n 0, 1) := by decide +kernel
theorem dX0_letWaterFlow_35 : decode cX0_letWaterFlow 35 = .ok (.getfield 12, 3) := by decide +kernel
theorem dX0_letWaterFlow_38 : decode cX0_letWaterFlow 38 = .ok (.invokevirtual 101, 3) := by decide +kernel
theorem dX0_letWaterFlow_41 : decode cX0_letWaterFlow 41 = .ok (.if_icmp .ge 61, 3) := by decide +kernel
theorem dX0_letWaterFlow_44 : decode cX0_letWaterFlow 44 = .ok (.iload_n 2, 1) := by decide +kernel
theorem dX0_letWaterFlow_45 : decode cX0_letWaterFlow 45 = .ok (.bipush 8, 2) := by decide +kernel
theorem dX0_letWaterFlow_47 : decode cX0_letWaterFlow 47 = .ok (.if_icmp .ge 55, 3) := by decide +kernel
theorem dX0_letWaterFlow_50 : decode cX0_letWaterFlow 50 = .ok (.aload_n 0, 1) := by decide +kernel
theorem dX0_letWaterFlow_51 : decode cX0_letWaterFlow 51 = .ok (.getfield 12, 3) := by decide +kernel
theorem dX0_letWaterFlow_54 : decode cX0_letWaterFlow 54 = .ok (.iload_n 2, 1) := by decide +kernel
theorem dX0_letWaterFlow_55 : decode cX0_letWaterFlow 55 = .ok (.iload_n 1, 1) := by decide +kernel
theorem dX0_letWaterFlow_56 : decode cX0_letWaterFlow 56 = .ok (.invokevirtual 185, 3) := by decide +kernel
theorem dX0_letWaterFlow_59 : decode cX0_letWaterFlow 59 = .ok (.aload_n 0, 1) := by decide +kernel
theorem dX0_letWaterFlow_60 : decode cX0_letWaterFlow 60 = .ok (.getfield 34, 3) := by decide +kernel
theorem dX0_letWaterFlow_63 : decode cX0_letWaterFlow 63 = .ok (.invokestatic 189, 3) := by decide +kernel
theorem dX0_letWaterFlow_66 : decode cX0_letWaterFlow 66 = .ok (.istore_n 3, 1) := by decide +kernel
theorem dX0_letWaterFlow_67 : decode cX0_letWaterFlow 67 = .ok (.aload_n 0, 1) := by decide +kernel
theorem dX0_letWaterFlow_68 : decode cX0_letWaterFlow 68 = .ok (.getfield 12, 3) := by decide +kernel
theorem dX0_letWaterFlow_71 : decode cX0_letWaterFlow 71 = .ok (.iload_n 2, 1) := by decide +kernel
theorem dX0_letWaterFlow_72 : decode cX0_letWaterFlow 72 = .ok (.iload_n 3, 1) := by decide +kernel
theorem dX0_letWaterFlow_73 : decode cX0_letWaterFlow 73 = .ok (.invokevirtual 192, 3) := by decide +kernel
theorem dX0_letWaterFlow_76 : decode cX0_letWaterFlow 76 = .ok (.aload_n 0, 1) := by decide +kernel
theorem dX0_letWaterFlow_77 : decode cX0_letWaterFlow 77 = .ok (.dup, 1) := by decide +kernel
theorem dX0_letWaterFlow_78 : decode cX0_letWaterFlow 78 = .ok (.getfield 34, 3) := by decide +kernel
theorem dX0_letWaterFlow_81 : decode cX0_letWaterFlow 81 = .ok (.iload_n 3, 1) := by decide +kernel
theorem dX0_letWaterFlow_82 : decode cX0_letWaterFlow 82 = .ok (.isub, 1) := by decide +kernel
theorem dX0_letWaterFlow_83 : decode cX0_letWaterFlow 83 = .ok (.putfield 34, 3) := by decide +kernel
theorem dX0_letWaterFlow_86 : decode cX0_letWaterFlow 86 = .ok (.aload_n 0, 1) := by decide +kernel
theorem dX0_letWaterFlow_87 : decode cX0_letWaterFlow 87 = .ok (.dup, 1) := by decide +kernel
theorem dX0_letWaterFlow_88 : decode cX0_letWaterFlow 88 = .ok (.getfield 60, 3) := by decide +kernel
theorem dX0_letWaterFlow_91 : decode cX0_letWaterFlow 91 = .ok (.iload_n 3, 1) := by decide +kernel
theorem dX0_letWaterFlow_92 : decode cX0_letWaterFlow 92 = .ok (.iadd, 1) := by decide +kernel
theorem dX0_letWaterFlow_93 : decode cX0_letWaterFlow 93 = .ok (.putfield 60, 3) := by decide +kernel
theorem dX0_letWaterFlow_96 : decode cX0_letWaterFlow 96 = .ok (.iinc 2 1, 3) := by decide +kernel
theorem dX0_letWaterFlow_99 : decode cX0_letWaterFlow 99 = .ok (.goto (-66), 3) := by decide +kernel
theorem dX0_letWaterFlow_102 : decode cX0_letWaterFlow 102 = .ok (.aload_n 0, 1) := by decide +kernel
theorem dX0_letWaterFlow_103 : decode cX0_letWaterFlow 103 = .ok (.getfield 34, 3) := by decide +kernel
theorem dX0_letWaterFlow_106 : decode cX0_letWaterFlow 106 = .ok (.sipush 9999, 3) := by decide +kernel
theorem dX0_letWaterFlow_109 : decode cX0_letWaterFlow 109 = .ok (.if_icmp .le 27, 3) := by decide +kernel
theorem dX0_letWaterFlow_112 : decode cX0_letWaterFlow 112 = .ok (.aload_n 0, 1) := by decide +kernel
theorem dX0_letWaterFlow_113 : decode cX0_letWaterFlow 113 = .ok (.dup, 1) := by decide +kernel
theorem dX0_letWaterFlow_114 : decode cX0_letWaterFlow 114 = .ok (.getfield 63, 3) := by decide +kernel
theorem dX0_letWaterFlow_117 : decode cX0_letWaterFlow 117 = .ok (.aload_n 0, 1) := by decide +kernel
theorem dX0_letWaterFlow_118 : decode cX0_letWaterFlow 118 = .ok (.getfield 34, 3) := by decide +kernel
theorem dX0_letWaterFlow_121 : decode cX0_letWaterFlow 121 = .ok (.sipush 9999, 3) := by decide +kernel
theorem dX0_letWaterFlow_124 : decode cX0_letWaterFlow 124 = .ok (.isub, 1) := by decide +kernel
theorem dX0_letWaterFlow_125 : decode cX0_letWaterFlow 125 = .ok (.iadd, 1) := by decide +kernel
theorem dX0_letWaterFlow_126 : decode cX0_letWaterFlow 126 = .ok (.putfield 63, 3) := by decide +kernel
theorem dX0_letWaterFlow_129 : decode cX0_letWaterFlow 129 = .ok (.aload_n 0, 1) := by decide +kernel
theorem dX0_letWaterFlow_130 : decode cX0_letWaterFlow 130 = .ok (.sipush 9999, 3) := by decide +kernel
theorem dX0_letWaterFlow_133 : decode cX0_letWaterFlow 133 = .ok (.putfield 34, 3) := by decide +kernel
theorem dX0_letWaterFlow_136 : decode cX0_letWaterFlow 136 = .ok (.return_, 1) := by decide +kernel
theorem dX0_water_0 : decode cX0_water 0 = .ok (.aload_n 0, 1) := by decide +kernel
theorem dX0_water_1 : decode cX0_water 1 = .ok (.getfield 34, 3) := by decide +kernel
theorem dX0_water_4 : decode cX0_water 4 = .ok (.ireturn, 1) := by decide +kernel
theorem dX0_head_0 : decode cX0_head 0 = .ok (.aload_n 0, 1) := by decide +kernel
theorem dX0_head_1 : decode cX0_head 1 = .ok (.getfield 34, 3) := by decide +kernel
theorem dX0_head_4 : decode cX0_head 4 = .ok (.sipush 1000, 3) := by decide +kernel
theorem dX0_head_7 : decode cX0_head 7 = .ok (.idiv, 1) := by decide +kernel
theorem dX0_head_8 : decode cX0_head 8 = .ok (.iconst 1, 1) := by decide +kernel
theorem dX0_head_9 : decode cX0_head 9 = .ok (.iadd, 1) := by decide +kernel
theorem dX0_head_10 : decode cX0_head 10 = .ok (.ireturn, 1) := by decide +kernel
theorem dX0_rule_0 : decode cX0_rule 0 = .ok (.aload_n 0, 1) := by decide +kernel
theorem dX0_rule_1 : decode cX0_rule 1 = .ok (.getfield 30, 3) := by decide +kernel
theorem dX0_rule_4 : decode cX0_rule 4 = .ok (.iconst 2, 1) := by decide +kernel
theorem dX0_rule_5 : decode cX0_rule 5 = .ok (.iaload, 1) := by decide +kernel
theorem dX0_rule_6 : decode cX0_rule 6 = .ok (.ireturn, 1) := by decide +kernel
theorem dX0_floodLevel_0 : decode cX0_floodLevel 0 = .ok (.aload_n 0, 1) := by decide +kernel
theorem dX0_floodLevel_1 : decode cX0_floodLevel 1 = .ok (.getfield 30, 3) := by decide +kernel
theorem dX0_floodLevel_4 : decode cX0_floodLevel 4 = .ok (.iconst 0, 1) := by decide +kernel
theorem dX0_floodLevel_5 : decode cX0_floodLevel 5 = .ok (.iaload, 1) := by decide +kernel
theorem dX0_floodLevel_6 : decode cX0_floodLevel 6 = .ok (.ireturn, 1) := by decide +kernel
theorem dX0_isFlooded_0 : decode cX0_isFlooded 0 = .ok (.aload_n 0, 1) := by decide +kernel
theorem dX0_isFlooded_1 : decode cX0_isFlooded 1 = .ok (.getfield 69, 3) := by decide +kernel
theorem dX0_isFlooded_4 : decode cX0_isFlooded 4 = .ok (.ireturn, 1) := by decide +kernel
theorem dX0_floodIsDue_0 : decode cX0_floodIsDue 0 = .ok (.aload_n 0, 1) := by decide +kernel
theorem dX0_floodIsDue_1 : decode cX0_floodIsDue 1 = .ok (.getfield 69, 3) := by decide +kernel
theorem dX0_floodIsDue_4 : decode cX0_floodIsDue 4 = .ok (.ifCond .ne 20, 3) := by decide +kernel
theorem dX0_floodIsDue_7 : decode cX0_floodIsDue 7 = .ok (.aload_n 0, 1) := by decide +kernel
theorem dX0_floodIsDue_8 : decode cX0_floodIsDue 8 = .ok (.getfield 34, 3) := by decide +kernel
theorem dX0_floodIsDue_11 : decode cX0_floodIsDue 11 = .ok (.aload_n 0, 1) := by decide +kernel
theorem dX0_floodIsDue_12 : decode cX0_floodIsDue 12 = .ok (.getfield 30, 3) := by decide +kernel
theorem dX0_floodIsDue_15 : decode cX0_floodIsDue 15 = .ok (.iconst 0, 1) := by decide +kernel
theorem dX0_floodIsDue_16 : decode cX0_floodIsDue 16 = .ok (.iaload, 1) := by decide +kernel
theorem dX0_floodIsDue_17 : decode cX0_floodIsDue 17 = .ok (.if_icmp .lt 7, 3) := by decide +kernel
theorem dX0_floodIsDue_20 : decode cX0_floodIsDue 20 = .ok (.iconst 1, 1) := by decide +kernel
theorem dX0_floodIsDue_21 : decode cX0_floodIsDue 21 = .ok (.goto 4, 3) := by decide +kernel
theorem dX0_floodIsDue_24 : decode cX0_floodIsDue 24 = .ok (.iconst 0, 1) := by decide +kernel
theorem dX0_floodIsDue_25 : decode cX0_floodIsDue 25 = .ok (.ireturn, 1) := by decide +kernel
theorem dX0_hasTask_0 : decode cX0_hasTask 0 = .ok (.aload_n 0, 1) := by decide +kernel
theorem dX0_hasTask_1 : decode cX0_hasTask 1 = .ok (.getfield 38, 3) := by decide +kernel
theorem dX0_hasTask_4 : decode cX0_hasTask 4 = .ok (.iconst (-1), 1) := by decide +kernel
theorem dX0_hasTask_5 : decode cX0_hasTask 5 = .ok (.if_icmp .eq 7, 3) := by decide +kernel
theorem dX0_hasTask_8 : decode cX0_hasTask 8 = .ok (.iconst 1, 1) := by decide +kernel
theorem dX0_hasTask_9 : decode cX0_hasTask 9 = .ok (.goto 4, 3) := by decide +kernel
theorem dX0_hasTask_12 : decode cX0_hasTask 12 = .ok (.iconst 0, 1) := by decide +kernel
theorem dX0_hasTask_13 : decode cX0_hasTask 13 = .ok (.ireturn, 1) := by decide +kernel
set_option maxRecDepth 20000 in
theorem ggX0_somethingWaits_X4_size : GoodIn wsX0_somethingWaits wsX4_size := goodIn_r _ [7, 8, 27, 28, 29, 30] (by decide +kernel) (by decide +kernel)
set_option maxRecDepth 20000 in
theorem gX0_somethingWaits_X4_size : GoodIn wsX0_somethingWaits (wsV RX0 123 RX4 yX4_size wsX4_size) := goodIn_app (goodIn_of _ (by decide +kernel)) ggX0_somethingWaits_X4_size
theorem dX0_somethingWaits_0 : decode cX0_somethingWaits 0 = .ok (.aload_n 0, 1) := by decide +kernel
theorem dX0_somethingWaits_1 : decode cX0_somethingWaits 1 = .ok (.getfield 27, 3) := by decide +kernel
theorem dX0_somethingWaits_4 : decode cX0_somethingWaits 4 = .ok (.invokevirtual 123, 3) := by decide +kernel
theorem dX0_somethingWaits_7 : decode cX0_somethingWaits 7 = .ok (.ifCond .gt 13, 3) := by decide +kernel
theorem dX0_somethingWaits_10 : decode cX0_somethingWaits 10 = .ok (.aload_n 0, 1) := by decide +kernel
theorem dX0_somethingWaits_11 : decode cX0_somethingWaits 11 = .ok (.getfield 23, 3) := by decide +kernel
theorem dX0_somethingWaits_14 : decode cX0_somethingWaits 14 = .ok (.invokevirtual 123, 3) := by decide +kernel
theorem dX0_somethingWaits_17 : decode cX0_somethingWaits 17 = .ok (.ifCond .le 7, 3) := by decide +kernel
theorem dX0_somethingWaits_20 : decode cX0_somethingWaits 20 = .ok (.iconst 1, 1) := by decide +kernel
theorem dX0_somethingWaits_21 : decode cX0_somethingWaits 21 = .ok (.goto 4, 3) := by decide +kernel
theorem dX0_somethingWaits_24 : decode cX0_somethingWaits 24 = .ok (.iconst 0, 1) := by decide +kernel
theorem dX0_somethingWaits_25 : decode cX0_somethingWaits 25 = .ok (.ireturn, 1) := by decide +kernel
set_option maxRecDepth 20000 in
theorem ggX0_rests_X0_hasTask : GoodIn wsX0_rests wsX0_hasTask := goodIn_r _ [6, 7, 20, 21, 22, 23, 24, 25, 26, 27, 28, 29, 30, 31, 32, 33, 34, 35, 36, 37] (by decide +kernel) (by decide +kernel)
set_option maxRecDepth 20000 in
theorem gX0_rests_X0_hasTask : GoodIn wsX0_rests (wsV RX0 143 RX0 yX0_hasTask wsX0_hasTask) := goodIn_app (goodIn_of _ (by decide +kernel)) ggX0_rests_X0_hasTask
set_option maxRecDepth 20000 in
theorem ggX0_rests_X0_somethingWaits : GoodIn wsX0_rests wsX0_somethingWaits := goodIn_r _ [11, 12, 13, 14, 15, 16, 17, 18, 19, 20, 21, 22, 23, 24, 25, 26, 27, 28, 29, 30, 31, 32, 33, 34, 35, 36, 37, 38, 39, 40, 41] (by decide +kernel) (by decide +kernel)
set_option maxRecDepth 20000 in
theorem gX0_rests_X0_somethingWaits : GoodIn wsX0_rests (wsV RX0 155 RX0 yX0_somethingWaits wsX0_somethingWaits) := goodIn_app (goodIn_of _ (by decide +kernel)) ggX0_rests_X0_somethingWaits
theorem dX0_rests_0 : decode cX0_rests 0 = .ok (.aload_n 0, 1) := by decide +kernel
theorem dX0_rests_1 : decode cX0_rests 1 = .ok (.invokevirtual 143, 3) := by decide +kernel
theorem dX0_rests_4 : decode cX0_rests 4 = .ok (.ifCond .ne 21, 3) := by decide +kernel
theorem dX0_rests_7 : decode cX0_rests 7 = .ok (.aload_n 0, 1) := by decide +kernel
theorem dX0_rests_8 : decode cX0_rests 8 = .ok (.invokevirtual 155, 3) := by decide +kernel
theorem dX0_rests_11 : decode cX0_rests 11 = .ok (.ifCond .ne 14, 3) := by decide +kernel
theorem dX0_rests_14 : decode cX0_rests 14 = .ok (.aload_n 0, 1) := by decide +kernel
theorem dX0_rests_15 : decode cX0_rests 15 = .ok (.getfield 69, 3) := by decide +kernel
theorem dX0_rests_18 : decode cX0_rests 18 = .ok (.ifCond .ne 7, 3) := by decide +kernel
theorem dX0_rests_21 : decode cX0_rests 21 = .ok (.iconst 1, 1) := by decide +kernel
theorem dX0_rests_22 : decode cX0_rests 22 = .ok (.goto 4, 3) := by decide +kernel
theorem dX0_rests_25 : decode cX0_rests 25 = .ok (.iconst 0, 1) := by decide +kernel
theorem dX0_rests_26 : decode cX0_rests 26 = .ok (.ireturn, 1) := by decide +kernel
set_option maxRecDepth 20000 in
theorem ggX0_ofGate_X1_has : GoodIn wsX0_ofGate wsX1_has := goodIn_r _ [9, 10, 82, 83, 84, 85, 86, 87] (by decide +kernel) (by decide +kernel)
set_option maxRecDepth 20000 in
theorem gX0_ofGate_X1_has : GoodIn wsX0_ofGate (wsV RX0 105 RX1 yX1_has wsX1_has) := goodIn_app (goodIn_of _ (by decide +kernel)) ggX0_ofGate_X1_has
set_option maxRecDepth 20000 in
theorem ggX0_ofGate_X1_kind : GoodIn wsX0_ofGate wsX1_kind := goodIn_r _ [14, 15, 16, 6, 7, 8, 9, 10, 82, 83, 84, 85, 86, 87] (by decide +kernel) (by decide +kernel)
set_option maxRecDepth 20000 in
theorem gX0_ofGate_X1_kind : GoodIn wsX0_ofGate (wsV RX0 109 RX1 yX1_kind wsX1_kind) := goodIn_app (goodIn_of _ (by decide +kernel)) ggX0_ofGate_X1_kind
set_option maxRecDepth 20000 in
theorem ggX0_ofGate_X1_width : GoodIn wsX0_ofGate wsX1_width := goodIn_r _ [20, 21, 16, 6, 7, 8, 9, 10, 82, 83, 84, 85, 86, 87] (by decide +kernel) (by decide +kernel)
set_option maxRecDepth 20000 in
theorem gX0_ofGate_X1_width : GoodIn wsX0_ofGate (wsV RX0 195 RX1 yX1_width wsX1_width) := goodIn_app (goodIn_of _ (by decide +kernel)) ggX0_ofGate_X1_width
set_option maxRecDepth 20000 in
theorem ggX0_ofGate_X1_opening : GoodIn wsX0_ofGate wsX1_opening := goodIn_r _ [25, 10, 26, 82, 83, 84, 85, 86, 87] (by decide +kernel) (by decide +kernel)
set_option maxRecDepth 20000 in
theorem gX0_ofGate_X1_opening : GoodIn wsX0_ofGate (wsV RX0 176 RX1 yX1_opening wsX1_opening) := goodIn_app (goodIn_of _ (by decide +kernel)) ggX0_ofGate_X1_opening
set_option maxRecDepth 20000 in
theorem ggX0_ofGate_X0_head : GoodIn wsX0_ofGate wsX0_head := goodIn_r _ [31, 32, 64, 65, 66, 67, 68, 69, 70, 71, 72, 73, 74, 75, 76, 77, 78, 79, 80, 81] (by decide +kernel) (by decide +kernel)
set_option maxRecDepth 20000 in
theorem gX0_ofGate_X0_head : GoodIn wsX0_ofGate (wsV RX0 182 RX0 yX0_head wsX0_head) := goodIn_app (goodIn_of _ (by decide +kernel)) ggX0_ofGate_X0_head
set_option maxRecDepth 20000 in
theorem ggX0_ofGate_X1_flow : GoodIn wsX0_ofGate wsX1_flow := goodIn_r _ [36, 15, 26, 21, 16, 6, 7, 8, 9, 10, 82, 83, 84, 85, 86, 87] (by decide +kernel) (by decide +kernel)
set_option maxRecDepth 20000 in
theorem gX0_ofGate_X1_flow : GoodIn wsX0_ofGate (wsV RX0 185 RX1 yX1_flow wsX1_flow) := goodIn_app (goodIn_of _ (by decide +kernel)) ggX0_ofGate_X1_flow
set_option maxRecDepth 20000 in
theorem ggX0_ofGate_X1_waterOut : GoodIn wsX0_ofGate wsX1_waterOut := goodIn_r _ [40, 41, 16, 6, 7, 8, 9, 10, 82, 83, 84, 85, 86, 87] (by decide +kernel) (by decide +kernel)
set_option maxRecDepth 20000 in
theorem gX0_ofGate_X1_waterOut : GoodIn wsX0_ofGate (wsV RX0 198 RX1 yX1_waterOut wsX1_waterOut) := goodIn_app (goodIn_of _ (by decide +kernel)) ggX0_ofGate_X1_waterOut
set_option maxRecDepth 20000 in
theorem ggX0_ofGate_X0_openingTold : GoodIn wsX0_ofGate wsX0_openingTold := goodIn_r _ [45, 46, 47, 48, 49, 50, 51, 52, 53, 54, 55, 56, 57, 58, 88, 89, 90, 91] (by decide +kernel) (by decide +kernel)
set_option maxRecDepth 20000 in
theorem gX0_ofGate_X0_openingTold : GoodIn wsX0_ofGate (wsV RX0 200 RX0 yX0_openingTold wsX0_openingTold) := goodIn_app (goodIn_of _ (by decide +kernel)) ggX0_ofGate_X0_openingTold
set_option maxRecDepth 20000 in
theorem ggX0_ofGate_X1_moves : GoodIn wsX0_ofGate wsX1_moves := goodIn_r _ [62, 63, 16, 6, 7, 8, 9, 10, 82, 83, 84, 85, 86, 87] (by decide +kernel) (by decide +kernel)
set_option maxRecDepth 20000 in
theorem gX0_ofGate_X1_moves : GoodIn wsX0_ofGate (wsV RX0 204 RX1 yX1_moves wsX1_moves) := goodIn_app (goodIn_of _ (by decide +kernel)) ggX0_ofGate_X1_moves
theorem dX0_ofGate_0 : decode cX0_ofGate 0 = .ok (.aload_n 0, 1) := by decide +kernel
theorem dX0_ofGate_1 : decode cX0_ofGate 1 = .ok (.getfield 12, 3) := by decide +kernel
theorem dX0_ofGate_4 : decode cX0_ofGate 4 = .ok (.iload_n 1, 1) := by decide +kernel
theorem dX0_ofGate_5 : decode cX0_ofGate 5 = .ok (.invokevirtual 105, 3) := by decide +kernel
theorem dX0_ofGate_8 : decode cX0_ofGate 8 = .ok (.ifCond .ne 6, 3) := by decide +kernel
theorem dX0_ofGate_11 : decode cX0_ofGate 11 = .ok (.ldc 91, 2) := by decide +kernel
theorem dX0_ofGate_13 : decode cX0_ofGate 13 = .ok (.ireturn, 1) := by decide +kernel
theorem dX0_ofGate_14 : decode cX0_ofGate 14 = .ok (.iload_n 2, 1) := by decide +kernel
theorem dX0_ofGate_15 : decode cX0_ofGate 15 = .ok (.tableswitch 123 0 7 #[45, 54, 63, 72, 85, 94, 104, 114], 45) := by decide +kernel
theorem dX0_ofGate_60 : decode cX0_ofGate 60 = .ok (.aload_n 0, 1) := by decide +kernel
theorem dX0_ofGate_61 : decode cX0_ofGate 61 = .ok (.getfield 12, 3) := by decide +kernel
theorem dX0_ofGate_64 : decode cX0_ofGate 64 = .ok (.iload_n 1, 1) := by decide +kernel
theorem dX0_ofGate_65 : decode cX0_ofGate 65 = .ok (.invokevirtual 109, 3) := by decide +kernel
theorem dX0_ofGate_68 : decode cX0_ofGate 68 = .ok (.ireturn, 1) := by decide +kernel
theorem dX0_ofGate_69 : decode cX0_ofGate 69 = .ok (.aload_n 0, 1) := by decide +kernel
theorem dX0_ofGate_70 : decode cX0_ofGate 70 = .ok (.getfield 12, 3) := by decide +kernel
theorem dX0_ofGate_73 : decode cX0_ofGate 73 = .ok (.iload_n 1, 1) := by decide +kernel
theorem dX0_ofGate_74 : decode cX0_ofGate 74 = .ok (.invokevirtual 195, 3) := by decide +kernel
theorem dX0_ofGate_77 : decode cX0_ofGate 77 = .ok (.ireturn, 1) := by decide +kernel
theorem dX0_ofGate_78 : decode cX0_ofGate 78 = .ok (.aload_n 0, 1) := by decide +kernel
theorem dX0_ofGate_79 : decode cX0_ofGate 79 = .ok (.getfield 12, 3) := by decide +kernel
theorem dX0_ofGate_82 : decode cX0_ofGate 82 = .ok (.iload_n 1, 1) := by decide +kernel
theorem dX0_ofGate_83 : decode cX0_ofGate 83 = .ok (.invokevirtual 176, 3) := by decide +kernel
theorem dX0_ofGate_86 : decode cX0_ofGate 86 = .ok (.ireturn, 1) := by decide +kernel
theorem dX0_ofGate_87 : decode cX0_ofGate 87 = .ok (.aload_n 0, 1) := by decide +kernel
theorem dX0_ofGate_88 : decode cX0_ofGate 88 = .ok (.getfield 12, 3) := by decide +kernel
theorem dX0_ofGate_91 : decode cX0_ofGate 91 = .ok (.iload_n 1, 1) := by decide +kernel
theorem dX0_ofGate_92 : decode cX0_ofGate 92 = .ok (.aload_n 0, 1) := by decide +kernel
theorem dX0_ofGate_93 : decode cX0_ofGate 93 = .ok (.invokevirtual 182, 3) := by decide +kernel
theorem dX0_ofGate_96 : decode cX0_ofGate 96 = .ok (.invokevirtual 185, 3) := by decide +kernel
theorem dX0_ofGate_99 : decode cX0_ofGate 99 = .ok (.ireturn, 1) := by decide +kernel
theorem dX0_ofGate_100 : decode cX0_ofGate 100 = .ok (.aload_n 0, 1) := by decide +kernel
theorem dX0_ofGate_101 : decode cX0_ofGate 101 = .ok (.getfield 12, 3) := by decide +kernel
theorem dX0_ofGate_104 : decode cX0_ofGate 104 = .ok (.iload_n 1, 1) := by decide +kernel
theorem dX0_ofGate_105 : decode cX0_ofGate 105 = .ok (.invokevirtual 198, 3) := by decide +kernel
theorem dX0_ofGate_108 : decode cX0_ofGate 108 = .ok (.ireturn, 1) := by decide +kernel
theorem dX0_ofGate_109 : decode cX0_ofGate 109 = .ok (.aload_n 0, 1) := by decide +kernel
theorem dX0_ofGate_110 : decode cX0_ofGate 110 = .ok (.aload_n 0, 1) := by decide +kernel
theorem dX0_ofGate_111 : decode cX0_ofGate 111 = .ok (.getfield 23, 3) := by decide +kernel
theorem dX0_ofGate_114 : decode cX0_ofGate 114 = .ok (.iload_n 1, 1) := by decide +kernel
theorem dX0_ofGate_115 : decode cX0_ofGate 115 = .ok (.invokevirtual 200, 3) := by decide +kernel
theorem dX0_ofGate_118 : decode cX0_ofGate 118 = .ok (.ireturn, 1) := by decide +kernel
theorem dX0_ofGate_119 : decode cX0_ofGate 119 = .ok (.aload_n 0, 1) := by decide +kernel
theorem dX0_ofGate_120 : decode cX0_ofGate 120 = .ok (.aload_n 0, 1) := by decide +kernel
theorem dX0_ofGate_121 : decode cX0_ofGate 121 = .ok (.getfield 27, 3) := by decide +kernel
theorem dX0_ofGate_124 : decode cX0_ofGate 124 = .ok (.iload_n 1, 1) := by decide +kernel
theorem dX0_ofGate_125 : decode cX0_ofGate 125 = .ok (.invokevirtual 200, 3) := by decide +kernel
theorem dX0_ofGate_128 : decode cX0_ofGate 128 = .ok (.ireturn, 1) := by decide +kernel
theorem dX0_ofGate_129 : decode cX0_ofGate 129 = .ok (.aload_n 0, 1) := by decide +kernel
theorem dX0_ofGate_130 : decode cX0_ofGate 130 = .ok (.getfield 12, 3) := by decide +kernel
theorem dX0_ofGate_133 : decode cX0_ofGate 133 = .ok (.iload_n 1, 1) := by decide +kernel
theorem dX0_ofGate_134 : decode cX0_ofGate 134 = .ok (.invokevirtual 204, 3) := by decide +kernel
theorem dX0_ofGate_137 : decode cX0_ofGate 137 = .ok (.ireturn, 1) := by decide +kernel
theorem dX0_ofGate_138 : decode cX0_ofGate 138 = .ok (.ldc 91, 2) := by decide +kernel
theorem dX0_ofGate_140 : decode cX0_ofGate 140 = .ok (.ireturn, 1) := by decide +kernel
set_option maxRecDepth 20000 in
theorem ggX0_openingTold_X4_indexOf : GoodIn wsX0_openingTold wsX4_indexOf := goodIn_r _ [6, 7, 8, 14, 15, 16, 17] (by decide +kernel) (by decide +kernel)
set_option maxRecDepth 20000 in
theorem gX0_openingTold_X4_indexOf : GoodIn wsX0_openingTold (wsV RX0 114 RX4 yX4_indexOf wsX4_indexOf) := goodIn_app (goodIn_of _ (by decide +kernel)) ggX0_openingTold_X4_indexOf
set_option maxRecDepth 20000 in
theorem ggX0_openingTold_X4_openingAt : GoodIn wsX0_openingTold wsX4_openingAt := goodIn_r _ [12, 7, 13, 14, 15, 16, 17] (by decide +kernel) (by decide +kernel)
set_option maxRecDepth 20000 in
theorem gX0_openingTold_X4_openingAt : GoodIn wsX0_openingTold (wsV RX0 124 RX4 yX4_openingAt wsX4_openingAt) := goodIn_app (goodIn_of _ (by decide +kernel)) ggX0_openingTold_X4_openingAt
theorem dX0_openingTold_0 : decode cX0_openingTold 0 = .ok (.aload_n 1, 1) := by decide +kernel
theorem dX0_openingTold_1 : decode cX0_openingTold 1 = .ok (.iload_n 2, 1) := by decide +kernel
theorem dX0_openingTold_2 : decode cX0_openingTold 2 = .ok (.invokevirtual 114, 3) := by decide +kernel
theorem dX0_openingTold_5 : decode cX0_openingTold 5 = .ok (.istore_n 3, 1) := by decide +kernel
theorem dX0_openingTold_6 : decode cX0_openingTold 6 = .ok (.iload_n 3, 1) := by decide +kernel
theorem dX0_openingTold_7 : decode cX0_openingTold 7 = .ok (.iconst (-1), 1) := by decide +kernel
theorem dX0_openingTold_8 : decode cX0_openingTold 8 = .ok (.if_icmp .ne 8, 3) := by decide +kernel
theorem dX0_openingTold_11 : decode cX0_openingTold 11 = .ok (.ldc 207, 2) := by decide +kernel
theorem dX0_openingTold_13 : decode cX0_openingTold 13 = .ok (.goto 8, 3) := by decide +kernel
theorem dX0_openingTold_16 : decode cX0_openingTold 16 = .ok (.aload_n 1, 1) := by decide +kernel
theorem dX0_openingTold_17 : decode cX0_openingTold 17 = .ok (.iload_n 3, 1) := by decide +kernel
theorem dX0_openingTold_18 : decode cX0_openingTold 18 = .ok (.invokevirtual 124, 3) := by decide +kernel
theorem dX0_openingTold_21 : decode cX0_openingTold 21 = .ok (.ireturn, 1) := by decide +kernel
set_option maxRecDepth 20000 in
theorem ggX0_ofCrane_X0_hasTask : GoodIn wsX0_ofCrane wsX0_hasTask := goodIn_r _ [14, 2, 21, 22, 23, 24, 25, 26, 27, 28, 29, 30, 31, 32, 33, 34, 35, 36, 37, 38] (by decide +kernel) (by decide +kernel)
set_option maxRecDepth 20000 in
theorem gX0_ofCrane_X0_hasTask : GoodIn wsX0_ofCrane (wsV RX0 143 RX0 yX0_hasTask wsX0_hasTask) := goodIn_app (goodIn_of _ (by decide +kernel)) ggX0_ofCrane_X0_hasTask
set_option maxRecDepth 20000 in
theorem ggX0_ofCrane_X4_size : GoodIn wsX0_ofCrane wsX4_size := goodIn_r _ [19, 20, 39, 40, 41, 42] (by decide +kernel) (by decide +kernel)
set_option maxRecDepth 20000 in
theorem gX0_ofCrane_X4_size : GoodIn wsX0_ofCrane (wsV RX0 123 RX4 yX4_size wsX4_size) := goodIn_app (goodIn_of _ (by decide +kernel)) ggX0_ofCrane_X4_size
theorem dX0_ofCrane_0 : decode cX0_ofCrane 0 = .ok (.iload_n 1, 1) := by decide +kernel
theorem dX0_ofCrane_1 : decode cX0_ofCrane 1 = .ok (.tableswitch 105 0 6 #[43, 48, 65, 82, 87, 92, 97], 43) := by decide +kernel
theorem dX0_ofCrane_44 : decode cX0_ofCrane 44 = .ok (.aload_n 0, 1) := by decide +kernel
theorem dX0_ofCrane_45 : decode cX0_ofCrane 45 = .ok (.getfield 76, 3) := by decide +kernel
theorem dX0_ofCrane_48 : decode cX0_ofCrane 48 = .ok (.ireturn, 1) := by decide +kernel
theorem dX0_ofCrane_49 : decode cX0_ofCrane 49 = .ok (.aload_n 0, 1) := by decide +kernel
theorem dX0_ofCrane_50 : decode cX0_ofCrane 50 = .ok (.invokevirtual 143, 3) := by decide +kernel
theorem dX0_ofCrane_53 : decode cX0_ofCrane 53 = .ok (.ifCond .eq 10, 3) := by decide +kernel
theorem dX0_ofCrane_56 : decode cX0_ofCrane 56 = .ok (.aload_n 0, 1) := by decide +kernel
theorem dX0_ofCrane_57 : decode cX0_ofCrane 57 = .ok (.getfield 38, 3) := by decide +kernel
theorem dX0_ofCrane_60 : decode cX0_ofCrane 60 = .ok (.goto 5, 3) := by decide +kernel
theorem dX0_ofCrane_63 : decode cX0_ofCrane 63 = .ok (.ldc 207, 2) := by decide +kernel
theorem dX0_ofCrane_65 : decode cX0_ofCrane 65 = .ok (.ireturn, 1) := by decide +kernel
theorem dX0_ofCrane_66 : decode cX0_ofCrane 66 = .ok (.aload_n 0, 1) := by decide +kernel
theorem dX0_ofCrane_67 : decode cX0_ofCrane 67 = .ok (.invokevirtual 143, 3) := by decide +kernel
theorem dX0_ofCrane_70 : decode cX0_ofCrane 70 = .ok (.ifCond .eq 10, 3) := by decide +kernel
theorem dX0_ofCrane_73 : decode cX0_ofCrane 73 = .ok (.aload_n 0, 1) := by decide +kernel
theorem dX0_ofCrane_74 : decode cX0_ofCrane 74 = .ok (.getfield 79, 3) := by decide +kernel
theorem dX0_ofCrane_77 : decode cX0_ofCrane 77 = .ok (.goto 5, 3) := by decide +kernel
theorem dX0_ofCrane_80 : decode cX0_ofCrane 80 = .ok (.ldc 207, 2) := by decide +kernel
theorem dX0_ofCrane_82 : decode cX0_ofCrane 82 = .ok (.ireturn, 1) := by decide +kernel
theorem dX0_ofCrane_83 : decode cX0_ofCrane 83 = .ok (.aload_n 0, 1) := by decide +kernel
theorem dX0_ofCrane_84 : decode cX0_ofCrane 84 = .ok (.getfield 82, 3) := by decide +kernel
theorem dX0_ofCrane_87 : decode cX0_ofCrane 87 = .ok (.ireturn, 1) := by decide +kernel
theorem dX0_ofCrane_88 : decode cX0_ofCrane 88 = .ok (.aload_n 0, 1) := by decide +kernel
theorem dX0_ofCrane_89 : decode cX0_ofCrane 89 = .ok (.getfield 85, 3) := by decide +kernel
theorem dX0_ofCrane_92 : decode cX0_ofCrane 92 = .ok (.ireturn, 1) := by decide +kernel
theorem dX0_ofCrane_93 : decode cX0_ofCrane 93 = .ok (.aload_n 0, 1) := by decide +kernel
theorem dX0_ofCrane_94 : decode cX0_ofCrane 94 = .ok (.getfield 88, 3) := by decide +kernel
theorem dX0_ofCrane_97 : decode cX0_ofCrane 97 = .ok (.ireturn, 1) := by decide +kernel
theorem dX0_ofCrane_98 : decode cX0_ofCrane 98 = .ok (.aload_n 0, 1) := by decide +kernel
theorem dX0_ofCrane_99 : decode cX0_ofCrane 99 = .ok (.getfield 27, 3) := by decide +kernel
theorem dX0_ofCrane_102 : decode cX0_ofCrane 102 = .ok (.invokevirtual 123, 3) := by decide +kernel
theorem dX0_ofCrane_105 : decode cX0_ofCrane 105 = .ok (.ireturn, 1) := by decide +kernel
theorem dX0_ofCrane_106 : decode cX0_ofCrane 106 = .ok (.ldc 91, 2) := by decide +kernel
theorem dX0_ofCrane_108 : decode cX0_ofCrane 108 = .ok (.ireturn, 1) := by decide +kernel
set_option maxRecDepth 20000 in
theorem ggX0_gateOfOrder_X0_gateIn : GoodIn wsX0_gateOfOrder wsX0_gateIn := goodIn_r _ [6, 7, 8, 9, 10, 11, 12, 13, 14, 15, 16, 17, 18, 19, 38, 39, 40, 41] (by decide +kernel) (by decide +kernel)
set_option maxRecDepth 20000 in
theorem gX0_gateOfOrder_X0_gateIn : GoodIn wsX0_gateOfOrder (wsV RX0 208 RX0 yX0_gateIn wsX0_gateIn) := goodIn_app (goodIn_of _ (by decide +kernel)) ggX0_gateOfOrder_X0_gateIn
theorem dX0_gateOfOrder_0 : decode cX0_gateOfOrder 0 = .ok (.aload_n 0, 1) := by decide +kernel
theorem dX0_gateOfOrder_1 : decode cX0_gateOfOrder 1 = .ok (.aload_n 0, 1) := by decide +kernel
theorem dX0_gateOfOrder_2 : decode cX0_gateOfOrder 2 = .ok (.getfield 23, 3) := by decide +kernel
theorem dX0_gateOfOrder_5 : decode cX0_gateOfOrder 5 = .ok (.iload_n 1, 1) := by decide +kernel
theorem dX0_gateOfOrder_6 : decode cX0_gateOfOrder 6 = .ok (.invokevirtual 208, 3) := by decide +kernel
theorem dX0_gateOfOrder_9 : decode cX0_gateOfOrder 9 = .ok (.ireturn, 1) := by decide +kernel
set_option maxRecDepth 20000 in
theorem ggX0_gateOfMark_X0_gateIn : GoodIn wsX0_gateOfMark wsX0_gateIn := goodIn_r _ [6, 7, 8, 9, 10, 11, 12, 13, 14, 15, 16, 17, 18, 19, 38, 39, 40, 41] (by decide +kernel) (by decide +kernel)
set_option maxRecDepth 20000 in
theorem gX0_gateOfMark_X0_gateIn : GoodIn wsX0_gateOfMark (wsV RX0 208 RX0 yX0_gateIn wsX0_gateIn) := goodIn_app (goodIn_of _ (by decide +kernel)) ggX0_gateOfMark_X0_gateIn
theorem dX0_gateOfMark_0 : decode cX0_gateOfMark 0 = .ok (.aload_n 0, 1) := by decide +kernel
theorem dX0_gateOfMark_1 : decode cX0_gateOfMark 1 = .ok (.aload_n 0, 1) := by decide +kernel
theorem dX0_gateOfMark_2 : decode cX0_gateOfMark 2 = .ok (.getfield 27, 3) := by decide +kernel
theorem dX0_gateOfMark_5 : decode cX0_gateOfMark 5 = .ok (.iload_n 1, 1) := by decide +kernel
theorem dX0_gateOfMark_6 : decode cX0_gateOfMark 6 = .ok (.invokevirtual 208, 3) := by decide +kernel
theorem dX0_gateOfMark_9 : decode cX0_gateOfMark 9 = .ok (.ireturn, 1) := by decide +kernel
set_option maxRecDepth 20000 in
theorem ggX0_gateIn_X4_size : GoodIn wsX0_gateIn wsX4_size := goodIn_r _ [7, 8, 14, 15, 16, 17] (by decide +kernel) (by decide +kernel)
set_option maxRecDepth 20000 in
theorem gX0_gateIn_X4_size : GoodIn wsX0_gateIn (wsV RX0 123 RX4 yX4_size wsX4_size) := goodIn_app (goodIn_of _ (by decide +kernel)) ggX0_gateIn_X4_size
set_option maxRecDepth 20000 in
theorem ggX0_gateIn_X4_gateAt : GoodIn wsX0_gateIn wsX4_gateAt := goodIn_r _ [12, 8, 13, 14, 15, 16, 17] (by decide +kernel) (by decide +kernel)
set_option maxRecDepth 20000 in
theorem gX0_gateIn_X4_gateAt : GoodIn wsX0_gateIn (wsV RX0 168 RX4 yX4_gateAt wsX4_gateAt) := goodIn_app (goodIn_of _ (by decide +kernel)) ggX0_gateIn_X4_gateAt
theorem dX0_gateIn_0 : decode cX0_gateIn 0 = .ok (.iload_n 2, 1) := by decide +kernel
theorem dX0_gateIn_1 : decode cX0_gateIn 1 = .ok (.ifCond .ge 6, 3) := by decide +kernel
theorem dX0_gateIn_4 : decode cX0_gateIn 4 = .ok (.ldc 91, 2) := by decide +kernel
theorem dX0_gateIn_6 : decode cX0_gateIn 6 = .ok (.ireturn, 1) := by decide +kernel
theorem dX0_gateIn_7 : decode cX0_gateIn 7 = .ok (.iload_n 2, 1) := by decide +kernel
theorem dX0_gateIn_8 : decode cX0_gateIn 8 = .ok (.aload_n 1, 1) := by decide +kernel
theorem dX0_gateIn_9 : decode cX0_gateIn 9 = .ok (.invokevirtual 123, 3) := by decide +kernel
theorem dX0_gateIn_12 : decode cX0_gateIn 12 = .ok (.if_icmp .ge 11, 3) := by decide +kernel
theorem dX0_gateIn_15 : decode cX0_gateIn 15 = .ok (.aload_n 1, 1) := by decide +kernel
theorem dX0_gateIn_16 : decode cX0_gateIn 16 = .ok (.iload_n 2, 1) := by decide +kernel
theorem dX0_gateIn_17 : decode cX0_gateIn 17 = .ok (.invokevirtual 168, 3) := by decide +kernel
theorem dX0_gateIn_20 : decode cX0_gateIn 20 = .ok (.goto 5, 3) := by decide +kernel
theorem dX0_gateIn_23 : decode cX0_gateIn 23 = .ok (.ldc 207, 2) := by decide +kernel
theorem dX0_gateIn_25 : decode cX0_gateIn 25 = .ok (.ireturn, 1) := by decide +kernel
set_option maxRecDepth 20000 in
theorem ggX0_outlook_X4_size : GoodIn wsX0_outlook wsX4_size := goodIn_r _ [12, 13, 43, 44, 45, 46] (by decide +kernel) (by decide +kernel)
set_option maxRecDepth 20000 in
theorem gX0_outlook_X4_size : GoodIn wsX0_outlook (wsV RX0 123 RX4 yX4_size wsX4_size) := goodIn_app (goodIn_of _ (by decide +kernel)) ggX0_outlook_X4_size
set_option maxRecDepth 20000 in
theorem ggX0_outlook_X1_has : GoodIn wsX0_outlook wsX1_has := goodIn_r _ [18, 19, 47, 48, 49, 50, 51, 52] (by decide +kernel) (by decide +kernel)
set_option maxRecDepth 20000 in
theorem gX0_outlook_X1_has : GoodIn wsX0_outlook (wsV RX0 105 RX1 yX1_has wsX1_has) := goodIn_app (goodIn_of _ (by decide +kernel)) ggX0_outlook_X1_has
set_option maxRecDepth 20000 in
theorem ggX0_outlook_X1_opening : GoodIn wsX0_outlook wsX1_opening := goodIn_r _ [23, 19, 24, 47, 48, 49, 50, 51, 52] (by decide +kernel) (by decide +kernel)
set_option maxRecDepth 20000 in
theorem gX0_outlook_X1_opening : GoodIn wsX0_outlook (wsV RX0 176 RX1 yX1_opening wsX1_opening) := goodIn_app (goodIn_of _ (by decide +kernel)) ggX0_outlook_X1_opening
theorem dX0_outlook_0 : decode cX0_outlook 0 = .ok (.iload_n 1, 1) := by decide +kernel
theorem dX0_outlook_1 : decode cX0_outlook 1 = .ok (.tableswitch 74 0 4 #[35, 40, 45, 53, 61], 35) := by decide +kernel
theorem dX0_outlook_36 : decode cX0_outlook 36 = .ok (.aload_n 0, 1) := by decide +kernel
theorem dX0_outlook_37 : decode cX0_outlook 37 = .ok (.getfield 34, 3) := by decide +kernel
theorem dX0_outlook_40 : decode cX0_outlook 40 = .ok (.ireturn, 1) := by decide +kernel
theorem dX0_outlook_41 : decode cX0_outlook 41 = .ok (.aload_n 0, 1) := by decide +kernel
theorem dX0_outlook_42 : decode cX0_outlook 42 = .ok (.getfield 76, 3) := by decide +kernel
theorem dX0_outlook_45 : decode cX0_outlook 45 = .ok (.ireturn, 1) := by decide +kernel
theorem dX0_outlook_46 : decode cX0_outlook 46 = .ok (.aload_n 0, 1) := by decide +kernel
theorem dX0_outlook_47 : decode cX0_outlook 47 = .ok (.getfield 27, 3) := by decide +kernel
theorem dX0_outlook_50 : decode cX0_outlook 50 = .ok (.invokevirtual 123, 3) := by decide +kernel
theorem dX0_outlook_53 : decode cX0_outlook 53 = .ok (.ireturn, 1) := by decide +kernel
theorem dX0_outlook_54 : decode cX0_outlook 54 = .ok (.aload_n 0, 1) := by decide +kernel
theorem dX0_outlook_55 : decode cX0_outlook 55 = .ok (.getfield 23, 3) := by decide +kernel
theorem dX0_outlook_58 : decode cX0_outlook 58 = .ok (.invokevirtual 123, 3) := by decide +kernel
theorem dX0_outlook_61 : decode cX0_outlook 61 = .ok (.ireturn, 1) := by decide +kernel
theorem dX0_outlook_62 : decode cX0_outlook 62 = .ok (.aload_n 0, 1) := by decide +kernel
theorem dX0_outlook_63 : decode cX0_outlook 63 = .ok (.getfield 69, 3) := by decide +kernel
theorem dX0_outlook_66 : decode cX0_outlook 66 = .ok (.ifCond .eq 7, 3) := by decide +kernel
theorem dX0_outlook_69 : decode cX0_outlook 69 = .ok (.iconst 1, 1) := by decide +kernel
theorem dX0_outlook_70 : decode cX0_outlook 70 = .ok (.goto 4, 3) := by decide +kernel
theorem dX0_outlook_73 : decode cX0_outlook 73 = .ok (.iconst 0, 1) := by decide +kernel
theorem dX0_outlook_74 : decode cX0_outlook 74 = .ok (.ireturn, 1) := by decide +kernel
theorem dX0_outlook_75 : decode cX0_outlook 75 = .ok (.iload_n 1, 1) := by decide +kernel
theorem dX0_outlook_76 : decode cX0_outlook 76 = .ok (.bipush 10, 2) := by decide +kernel
theorem dX0_outlook_78 : decode cX0_outlook 78 = .ok (.if_icmp .lt 31, 3) := by decide +kernel
theorem dX0_outlook_81 : decode cX0_outlook 81 = .ok (.aload_n 0, 1) := by decide +kernel
theorem dX0_outlook_82 : decode cX0_outlook 82 = .ok (.getfield 12, 3) := by decide +kernel
theorem dX0_outlook_85 : decode cX0_outlook 85 = .ok (.iload_n 1, 1) := by decide +kernel
theorem dX0_outlook_86 : decode cX0_outlook 86 = .ok (.bipush 10, 2) := by decide +kernel
theorem dX0_outlook_88 : decode cX0_outlook 88 = .ok (.isub, 1) := by decide +kernel
theorem dX0_outlook_89 : decode cX0_outlook 89 = .ok (.invokevirtual 105, 3) := by decide +kernel
theorem dX0_outlook_92 : decode cX0_outlook 92 = .ok (.ifCond .eq 17, 3) := by decide +kernel
theorem dX0_outlook_95 : decode cX0_outlook 95 = .ok (.aload_n 0, 1) := by decide +kernel
theorem dX0_outlook_96 : decode cX0_outlook 96 = .ok (.getfield 12, 3) := by decide +kernel
theorem dX0_outlook_99 : decode cX0_outlook 99 = .ok (.iload_n 1, 1) := by decide +kernel
theorem dX0_outlook_100 : decode cX0_outlook 100 = .ok (.bipush 10, 2) := by decide +kernel
theorem dX0_outlook_102 : decode cX0_outlook 102 = .ok (.isub, 1) := by decide +kernel
theorem dX0_outlook_103 : decode cX0_outlook 103 = .ok (.invokevirtual 176, 3) := by decide +kernel
theorem dX0_outlook_106 : decode cX0_outlook 106 = .ok (.goto 5, 3) := by decide +kernel
theorem dX0_outlook_109 : decode cX0_outlook 109 = .ok (.ldc 91, 2) := by decide +kernel
theorem dX0_outlook_111 : decode cX0_outlook 111 = .ok (.ireturn, 1) := by decide +kernel
set_option maxRecDepth 20000 in
theorem ggX0_number_X1_size : GoodIn wsX0_number wsX1_size := goodIn_r _ [17, 18, 48, 49, 50, 51, 52, 53] (by decide +kernel) (by decide +kernel)
set_option maxRecDepth 20000 in
theorem gX0_number_X1_size : GoodIn wsX0_number (wsV RX0 101 RX1 yX1_size wsX1_size) := goodIn_app (goodIn_of _ (by decide +kernel)) ggX0_number_X1_size
set_option maxRecDepth 20000 in
theorem ggX0_number_X0_head : GoodIn wsX0_number wsX0_head := goodIn_r _ [23, 2, 30, 31, 32, 33, 34, 35, 36, 37, 38, 39, 40, 41, 42, 43, 44, 45, 46, 47] (by decide +kernel) (by decide +kernel)
set_option maxRecDepth 20000 in
theorem gX0_number_X0_head : GoodIn wsX0_number (wsV RX0 182 RX0 yX0_head wsX0_head) := goodIn_app (goodIn_of _ (by decide +kernel)) ggX0_number_X0_head
set_option maxRecDepth 20000 in
theorem ggX0_number_X4_size : GoodIn wsX0_number wsX4_size := goodIn_r _ [28, 29, 54, 55, 56, 57] (by decide +kernel) (by decide +kernel)
set_option maxRecDepth 20000 in
theorem gX0_number_X4_size : GoodIn wsX0_number (wsV RX0 123 RX4 yX4_size wsX4_size) := goodIn_app (goodIn_of _ (by decide +kernel)) ggX0_number_X4_size
theorem dX0_number_0 : decode cX0_number 0 = .ok (.iload_n 1, 1) := by decide +kernel
theorem dX0_number_1 : decode cX0_number 1 = .ok (.tableswitch 197 0 22 #[107, 115, 120, 125, 130, 135, 140, 145, 150, 158, 171, 197, 197, 197, 197, 197, 197, 197, 197, 197, 176, 183, 190], 107) := by decide +kernel
theorem dX0_number_108 : decode cX0_number 108 = .ok (.aload_n 0, 1) := by decide +kernel
theorem dX0_number_109 : decode cX0_number 109 = .ok (.getfield 12, 3) := by decide +kernel
theorem dX0_number_112 : decode cX0_number 112 = .ok (.invokevirtual 101, 3) := by decide +kernel
theorem dX0_number_115 : decode cX0_number 115 = .ok (.ireturn, 1) := by decide +kernel
theorem dX0_number_116 : decode cX0_number 116 = .ok (.aload_n 0, 1) := by decide +kernel
theorem dX0_number_117 : decode cX0_number 117 = .ok (.getfield 34, 3) := by decide +kernel
theorem dX0_number_120 : decode cX0_number 120 = .ok (.ireturn, 1) := by decide +kernel
theorem dX0_number_121 : decode cX0_number 121 = .ok (.aload_n 0, 1) := by decide +kernel
theorem dX0_number_122 : decode cX0_number 122 = .ok (.getfield 54, 3) := by decide +kernel
theorem dX0_number_125 : decode cX0_number 125 = .ok (.ireturn, 1) := by decide +kernel
theorem dX0_number_126 : decode cX0_number 126 = .ok (.aload_n 0, 1) := by decide +kernel
theorem dX0_number_127 : decode cX0_number 127 = .ok (.invokevirtual 182, 3) := by decide +kernel
theorem dX0_number_130 : decode cX0_number 130 = .ok (.ireturn, 1) := by decide +kernel
theorem dX0_number_131 : decode cX0_number 131 = .ok (.aload_n 0, 1) := by decide +kernel
theorem dX0_number_132 : decode cX0_number 132 = .ok (.getfield 66, 3) := by decide +kernel
theorem dX0_number_135 : decode cX0_number 135 = .ok (.ireturn, 1) := by decide +kernel
theorem dX0_number_136 : decode cX0_number 136 = .ok (.aload_n 0, 1) := by decide +kernel
theorem dX0_number_137 : decode cX0_number 137 = .ok (.getfield 57, 3) := by decide +kernel
theorem dX0_number_140 : decode cX0_number 140 = .ok (.ireturn, 1) := by decide +kernel
theorem dX0_number_141 : decode cX0_number 141 = .ok (.aload_n 0, 1) := by decide +kernel
theorem dX0_number_142 : decode cX0_number 142 = .ok (.getfield 60, 3) := by decide +kernel
theorem dX0_number_145 : decode cX0_number 145 = .ok (.ireturn, 1) := by decide +kernel
theorem dX0_number_146 : decode cX0_number 146 = .ok (.aload_n 0, 1) := by decide +kernel
theorem dX0_number_147 : decode cX0_number 147 = .ok (.getfield 63, 3) := by decide +kernel
theorem dX0_number_150 : decode cX0_number 150 = .ok (.ireturn, 1) := by decide +kernel
theorem dX0_number_151 : decode cX0_number 151 = .ok (.aload_n 0, 1) := by decide +kernel
theorem dX0_number_152 : decode cX0_number 152 = .ok (.getfield 23, 3) := by decide +kernel
theorem dX0_number_155 : decode cX0_number 155 = .ok (.invokevirtual 123, 3) := by decide +kernel
theorem dX0_number_158 : decode cX0_number 158 = .ok (.ireturn, 1) := by decide +kernel
theorem dX0_number_159 : decode cX0_number 159 = .ok (.aload_n 0, 1) := by decide +kernel
theorem dX0_number_160 : decode cX0_number 160 = .ok (.getfield 69, 3) := by decide +kernel
theorem dX0_number_163 : decode cX0_number 163 = .ok (.ifCond .eq 7, 3) := by decide +kernel
theorem dX0_number_166 : decode cX0_number 166 = .ok (.iconst 1, 1) := by decide +kernel
theorem dX0_number_167 : decode cX0_number 167 = .ok (.goto 4, 3) := by decide +kernel
theorem dX0_number_170 : decode cX0_number 170 = .ok (.iconst 0, 1) := by decide +kernel
theorem dX0_number_171 : decode cX0_number 171 = .ok (.ireturn, 1) := by decide +kernel
theorem dX0_number_172 : decode cX0_number 172 = .ok (.aload_n 0, 1) := by decide +kernel
theorem dX0_number_173 : decode cX0_number 173 = .ok (.getfield 73, 3) := by decide +kernel
theorem dX0_number_176 : decode cX0_number 176 = .ok (.ireturn, 1) := by decide +kernel
theorem dX0_number_177 : decode cX0_number 177 = .ok (.aload_n 0, 1) := by decide +kernel
theorem dX0_number_178 : decode cX0_number 178 = .ok (.getfield 30, 3) := by decide +kernel
theorem dX0_number_181 : decode cX0_number 181 = .ok (.iconst 0, 1) := by decide +kernel
theorem dX0_number_182 : decode cX0_number 182 = .ok (.iaload, 1) := by decide +kernel
theorem dX0_number_183 : decode cX0_number 183 = .ok (.ireturn, 1) := by decide +kernel
theorem dX0_number_184 : decode cX0_number 184 = .ok (.aload_n 0, 1) := by decide +kernel
theorem dX0_number_185 : decode cX0_number 185 = .ok (.getfield 30, 3) := by decide +kernel
theorem dX0_number_188 : decode cX0_number 188 = .ok (.iconst 1, 1) := by decide +kernel
theorem dX0_number_189 : decode cX0_number 189 = .ok (.iaload, 1) := by decide +kernel
theorem dX0_number_190 : decode cX0_number 190 = .ok (.ireturn, 1) := by decide +kernel
theorem dX0_number_191 : decode cX0_number 191 = .ok (.aload_n 0, 1) := by decide +kernel
theorem dX0_number_192 : decode cX0_number 192 = .ok (.getfield 30, 3) := by decide +kernel
theorem dX0_number_195 : decode cX0_number 195 = .ok (.iconst 2, 1) := by decide +kernel
theorem dX0_number_196 : decode cX0_number 196 = .ok (.iaload, 1) := by decide +kernel
theorem dX0_number_197 : decode cX0_number 197 = .ok (.ireturn, 1) := by decide +kernel
theorem dX0_number_198 : decode cX0_number 198 = .ok (.ldc 91, 2) := by decide +kernel
theorem dX0_number_200 : decode cX0_number 200 = .ok (.ireturn, 1) := by decide +kernel
theorem dX1_init_0 : decode cX1_init 0 = .ok (.aload_n 0, 1) := by decide +kernel
theorem dX1_init_1 : decode cX1_init 1 = .ok (.invokespecial 3, 3) := by decide +kernel
theorem dX1_init_4 : decode cX1_init 4 = .ok (.aload_n 0, 1) := by decide +kernel
theorem dX1_init_5 : decode cX1_init 5 = .ok (.bipush 8, 2) := by decide +kernel
theorem dX1_init_7 : decode cX1_init 7 = .ok (.newarray .int, 2) := by decide +kernel
theorem dX1_init_9 : decode cX1_init 9 = .ok (.putfield 9, 3) := by decide +kernel
theorem dX1_init_12 : decode cX1_init 12 = .ok (.aload_n 0, 1) := by decide +kernel
theorem dX1_init_13 : decode cX1_init 13 = .ok (.bipush 8, 2) := by decide +kernel
theorem dX1_init_15 : decode cX1_init 15 = .ok (.newarray .int, 2) := by decide +kernel
theorem dX1_init_17 : decode cX1_init 17 = .ok (.putfield 15, 3) := by decide +kernel
theorem dX1_init_20 : decode cX1_init 20 = .ok (.aload_n 0, 1) := by decide +kernel
theorem dX1_init_21 : decode cX1_init 21 = .ok (.bipush 8, 2) := by decide +kernel
theorem dX1_init_23 : decode cX1_init 23 = .ok (.newarray .int, 2) := by decide +kernel
theorem dX1_init_25 : decode cX1_init 25 = .ok (.putfield 18, 3) := by decide +kernel
theorem dX1_init_28 : decode cX1_init 28 = .ok (.aload_n 0, 1) := by decide +kernel
theorem dX1_init_29 : decode cX1_init 29 = .ok (.bipush 8, 2) := by decide +kernel
theorem dX1_init_31 : decode cX1_init 31 = .ok (.newarray .int, 2) := by decide +kernel
theorem dX1_init_33 : decode cX1_init 33 = .ok (.putfield 21, 3) := by decide +kernel
theorem dX1_init_36 : decode cX1_init 36 = .ok (.aload_n 0, 1) := by decide +kernel
theorem dX1_init_37 : decode cX1_init 37 = .ok (.bipush 8, 2) := by decide +kernel
theorem dX1_init_39 : decode cX1_init 39 = .ok (.newarray .int, 2) := by decide +kernel
theorem dX1_init_41 : decode cX1_init 41 = .ok (.putfield 24, 3) := by decide +kernel
theorem dX1_init_44 : decode cX1_init 44 = .ok (.return_, 1) := by decide +kernel
theorem dX1_copyFrom_0 : decode cX1_copyFrom 0 = .ok (.aload_n 0, 1) := by decide +kernel
theorem dX1_copyFrom_1 : decode cX1_copyFrom 1 = .ok (.aload_n 1, 1) := by decide +kernel
theorem dX1_copyFrom_2 : decode cX1_copyFrom 2 = .ok (.getfield 27, 3) := by decide +kernel
theorem dX1_copyFrom_5 : decode cX1_copyFrom 5 = .ok (.putfield 27, 3) := by decide +kernel
theorem dX1_copyFrom_8 : decode cX1_copyFrom 8 = .ok (.aload_n 1, 1) := by decide +kernel
theorem dX1_copyFrom_9 : decode cX1_copyFrom 9 = .ok (.getfield 9, 3) := by decide +kernel
theorem dX1_copyFrom_12 : decode cX1_copyFrom 12 = .ok (.iconst 0, 1) := by decide +kernel
theorem dX1_copyFrom_13 : decode cX1_copyFrom 13 = .ok (.aload_n 0, 1) := by decide +kernel
theorem dX1_copyFrom_14 : decode cX1_copyFrom 14 = .ok (.getfield 9, 3) := by decide +kernel
theorem dX1_copyFrom_17 : decode cX1_copyFrom 17 = .ok (.iconst 0, 1) := by decide +kernel
theorem dX1_copyFrom_18 : decode cX1_copyFrom 18 = .ok (.bipush 8, 2) := by decide +kernel
theorem dX1_copyFrom_20 : decode cX1_copyFrom 20 = .ok (.invokestatic 31, 3) := by decide +kernel
theorem dX1_copyFrom_23 : decode cX1_copyFrom 23 = .ok (.aload_n 1, 1) := by decide +kernel
theorem dX1_copyFrom_24 : decode cX1_copyFrom 24 = .ok (.getfield 15, 3) := by decide +kernel
theorem dX1_copyFrom_27 : decode cX1_copyFrom 27 = .ok (.iconst 0, 1) := by decide +kernel
theorem dX1_copyFrom_28 : decode cX1_copyFrom 28 = .ok (.aload_n 0, 1) := by decide +kernel
theorem dX1_copyFrom_29 : decode cX1_copyFrom 29 = .ok (.getfield 15, 3) := by decide +kernel
theorem dX1_copyFrom_32 : decode cX1_copyFrom 32 = .ok (.iconst 0, 1) := by decide +kernel
theorem dX1_copyFrom_33 : decode cX1_copyFrom 33 = .ok (.bipush 8, 2) := by decide +kernel
theorem dX1_copyFrom_35 : decode cX1_copyFrom 35 = .ok (.invokestatic 31, 3) := by decide +kernel
theorem dX1_copyFrom_38 : decode cX1_copyFrom 38 = .ok (.aload_n 1, 1) := by decide +kernel
theorem dX1_copyFrom_39 : decode cX1_copyFrom 39 = .ok (.getfield 18, 3) := by decide +kernel
theorem dX1_copyFrom_42 : decode cX1_copyFrom 42 = .ok (.iconst 0, 1) := by decide +kernel
theorem dX1_copyFrom_43 : decode cX1_copyFrom 43 = .ok (.aload_n 0, 1) := by decide +kernel
theorem dX1_copyFrom_44 : decode cX1_copyFrom 44 = .ok (.getfield 18, 3) := by decide +kernel
theorem dX1_copyFrom_47 : decode cX1_copyFrom 47 = .ok (.iconst 0, 1) := by decide +kernel
theorem dX1_copyFrom_48 : decode cX1_copyFrom 48 = .ok (.bipush 8, 2) := by decide +kernel
theorem dX1_copyFrom_50 : decode cX1_copyFrom 50 = .ok (.invokestatic 31, 3) := by decide +kernel
theorem dX1_copyFrom_53 : decode cX1_copyFrom 53 = .ok (.aload_n 1, 1) := by decide +kernel
theorem dX1_copyFrom_54 : decode cX1_copyFrom 54 = .ok (.getfield 21, 3) := by decide +kernel
theorem dX1_copyFrom_57 : decode cX1_copyFrom 57 = .ok (.iconst 0, 1) := by decide +kernel
theorem dX1_copyFrom_58 : decode cX1_copyFrom 58 = .ok (.aload_n 0, 1) := by decide +kernel
theorem dX1_copyFrom_59 : decode cX1_copyFrom 59 = .ok (.getfield 21, 3) := by decide +kernel
theorem dX1_copyFrom_62 : decode cX1_copyFrom 62 = .ok (.iconst 0, 1) := by decide +kernel
theorem dX1_copyFrom_63 : decode cX1_copyFrom 63 = .ok (.bipush 8, 2) := by decide +kernel
theorem dX1_copyFrom_65 : decode cX1_copyFrom 65 = .ok (.invokestatic 31, 3) := by decide +kernel
theorem dX1_copyFrom_68 : decode cX1_copyFrom 68 = .ok (.aload_n 1, 1) := by decide +kernel
theorem dX1_copyFrom_69 : decode cX1_copyFrom 69 = .ok (.getfield 24, 3) := by decide +kernel
theorem dX1_copyFrom_72 : decode cX1_copyFrom 72 = .ok (.iconst 0, 1) := by decide +kernel
theorem dX1_copyFrom_73 : decode cX1_copyFrom 73 = .ok (.aload_n 0, 1) := by decide +kernel
theorem dX1_copyFrom_74 : decode cX1_copyFrom 74 = .ok (.getfield 24, 3) := by decide +kernel
theorem dX1_copyFrom_77 : decode cX1_copyFrom 77 = .ok (.iconst 0, 1) := by decide +kernel
theorem dX1_copyFrom_78 : decode cX1_copyFrom 78 = .ok (.bipush 8, 2) := by decide +kernel
theorem dX1_copyFrom_80 : decode cX1_copyFrom 80 = .ok (.invokestatic 31, 3) := by decide +kernel
theorem dX1_copyFrom_83 : decode cX1_copyFrom 83 = .ok (.return_, 1) := by decide +kernel
theorem dX1_size_0 : decode cX1_size 0 = .ok (.aload_n 0, 1) := by decide +kernel
theorem dX1_size_1 : decode cX1_size 1 = .ok (.getfield 27, 3) := by decide +kernel
theorem dX1_size_4 : decode cX1_size 4 = .ok (.ireturn, 1) := by decide +kernel
theorem dX1_has_0 : decode cX1_has 0 = .ok (.iload_n 1, 1) := by decide +kernel
theorem dX1_has_1 : decode cX1_has 1 = .ok (.ifCond .lt 21, 3) := by decide +kernel
theorem dX1_has_4 : decode cX1_has 4 = .ok (.iload_n 1, 1) := by decide +kernel
theorem dX1_has_5 : decode cX1_has 5 = .ok (.aload_n 0, 1) := by decide +kernel
theorem dX1_has_6 : decode cX1_has 6 = .ok (.getfield 27, 3) := by decide +kernel
theorem dX1_has_9 : decode cX1_has 9 = .ok (.if_icmp .ge 13, 3) := by decide +kernel
theorem dX1_has_12 : decode cX1_has 12 = .ok (.iload_n 1, 1) := by decide +kernel
theorem dX1_has_13 : decode cX1_has 13 = .ok (.bipush 8, 2) := by decide +kernel
theorem dX1_has_15 : decode cX1_has 15 = .ok (.if_icmp .ge 7, 3) := by decide +kernel
theorem dX1_has_18 : decode cX1_has 18 = .ok (.iconst 1, 1) := by decide +kernel
theorem dX1_has_19 : decode cX1_has 19 = .ok (.goto 4, 3) := by decide +kernel
theorem dX1_has_22 : decode cX1_has 22 = .ok (.iconst 0, 1) := by decide +kernel
theorem dX1_has_23 : decode cX1_has 23 = .ok (.ireturn, 1) := by decide +kernel
theorem dX1_isFull_0 : decode cX1_isFull 0 = .ok (.aload_n 0, 1) := by decide +kernel
theorem dX1_isFull_1 : decode cX1_isFull 1 = .ok (.getfield 27, 3) := by decide +kernel
theorem dX1_isFull_4 : decode cX1_isFull 4 = .ok (.bipush 8, 2) := by decide +kernel
theorem dX1_isFull_6 : decode cX1_isFull 6 = .ok (.if_icmp .lt 7, 3) := by decide +kernel
theorem dX1_isFull_9 : decode cX1_isFull 9 = .ok (.iconst 1, 1) := by decide +kernel
theorem dX1_isFull_10 : decode cX1_isFull 10 = .ok (.goto 4, 3) := by decide +kernel
theorem dX1_isFull_13 : decode cX1_isFull 13 = .ok (.iconst 0, 1) := by decide +kernel
theorem dX1_isFull_14 : decode cX1_isFull 14 = .ok (.ireturn, 1) := by decide +kernel
set_option maxRecDepth 20000 in
theorem ggX1_append_X1_isFull : GoodIn wsX1_append wsX1_isFull := goodIn_r _ [11, 2, 12, 13, 14, 15, 16, 17] (by decide +kernel) (by decide +kernel)
set_option maxRecDepth 20000 in
theorem gX1_append_X1_isFull : GoodIn wsX1_append (wsV RX1 37 RX1 yX1_isFull wsX1_isFull) := goodIn_app (goodIn_of _ (by decide +kernel)) ggX1_append_X1_isFull
theorem dX1_append_0 : decode cX1_append 0 = .ok (.aload_n 0, 1) := by decide +kernel
theorem dX1_append_1 : decode cX1_append 1 = .ok (.invokevirtual 37, 3) := by decide +kernel
theorem dX1_append_4 : decode cX1_append 4 = .ok (.ifCond .eq 4, 3) := by decide +kernel
theorem dX1_append_7 : decode cX1_append 7 = .ok (.return_, 1) := by decide +kernel
theorem dX1_append_8 : decode cX1_append 8 = .ok (.aload_n 0, 1) := by decide +kernel
theorem dX1_append_9 : decode cX1_append 9 = .ok (.getfield 9, 3) := by decide +kernel
theorem dX1_append_12 : decode cX1_append 12 = .ok (.aload_n 0, 1) := by decide +kernel
theorem dX1_append_13 : decode cX1_append 13 = .ok (.getfield 27, 3) := by decide +kernel
theorem dX1_append_16 : decode cX1_append 16 = .ok (.iload_n 1, 1) := by decide +kernel
theorem dX1_append_17 : decode cX1_append 17 = .ok (.iastore, 1) := by decide +kernel
theorem dX1_append_18 : decode cX1_append 18 = .ok (.aload_n 0, 1) := by decide +kernel
theorem dX1_append_19 : decode cX1_append 19 = .ok (.getfield 15, 3) := by decide +kernel
theorem dX1_append_22 : decode cX1_append 22 = .ok (.aload_n 0, 1) := by decide +kernel
theorem dX1_append_23 : decode cX1_append 23 = .ok (.getfield 27, 3) := by decide +kernel
theorem dX1_append_26 : decode cX1_append 26 = .ok (.iload_n 2, 1) := by decide +kernel
theorem dX1_append_27 : decode cX1_append 27 = .ok (.iastore, 1) := by decide +kernel
theorem dX1_append_28 : decode cX1_append 28 = .ok (.aload_n 0, 1) := by decide +kernel
theorem dX1_append_29 : decode cX1_append 29 = .ok (.getfield 18, 3) := by decide +kernel
theorem dX1_append_32 : decode cX1_append 32 = .ok (.aload_n 0, 1) := by decide +kernel
theorem dX1_append_33 : decode cX1_append 33 = .ok (.getfield 27, 3) := by decide +kernel
theorem dX1_append_36 : decode cX1_append 36 = .ok (.iconst 0, 1) := by decide +kernel
theorem dX1_append_37 : decode cX1_append 37 = .ok (.iastore, 1) := by decide +kernel
theorem dX1_append_38 : decode cX1_append 38 = .ok (.aload_n 0, 1) := by decide +kernel
theorem dX1_append_39 : decode cX1_append 39 = .ok (.getfield 21, 3) := by decide +kernel
theorem dX1_append_42 : decode cX1_append 42 = .ok (.aload_n 0, 1) := by decide +kernel
theorem dX1_append_43 : decode cX1_append 43 = .ok (.getfield 27, 3) := by decide +kernel
theorem dX1_append_46 : decode cX1_append 46 = .ok (.iconst 0, 1) := by decide +kernel
theorem dX1_append_47 : decode cX1_append 47 = .ok (.iastore, 1) := by decide +kernel
theorem dX1_append_48 : decode cX1_append 48 = .ok (.aload_n 0, 1) := by decide +kernel
theorem dX1_append_49 : decode cX1_append 49 = .ok (.getfield 24, 3) := by decide +kernel
theorem dX1_append_52 : decode cX1_append 52 = .ok (.aload_n 0, 1) := by decide +kernel
theorem dX1_append_53 : decode cX1_append 53 = .ok (.getfield 27, 3) := by decide +kernel
theorem dX1_append_56 : decode cX1_append 56 = .ok (.iconst 0, 1) := by decide +kernel
theorem dX1_append_57 : decode cX1_append 57 = .ok (.iastore, 1) := by decide +kernel
theorem dX1_append_58 : decode cX1_append 58 = .ok (.aload_n 0, 1) := by decide +kernel
theorem dX1_append_59 : decode cX1_append 59 = .ok (.dup, 1) := by decide +kernel
theorem dX1_append_60 : decode cX1_append 60 = .ok (.getfield 27, 3) := by decide +kernel
theorem dX1_append_63 : decode cX1_append 63 = .ok (.iconst 1, 1) := by decide +kernel
theorem dX1_append_64 : decode cX1_append 64 = .ok (.iadd, 1) := by decide +kernel
theorem dX1_append_65 : decode cX1_append 65 = .ok (.putfield 27, 3) := by decide +kernel
theorem dX1_append_68 : decode cX1_append 68 = .ok (.return_, 1) := by decide +kernel
set_option maxRecDepth 20000 in
theorem ggX1_kind_X1_has : GoodIn wsX1_kind wsX1_has := goodIn_r _ [6, 7, 8, 9, 10, 11, 12, 13] (by decide +kernel) (by decide +kernel)
set_option maxRecDepth 20000 in
theorem gX1_kind_X1_has : GoodIn wsX1_kind (wsV RX1 41 RX1 yX1_has wsX1_has) := goodIn_app (goodIn_of _ (by decide +kernel)) ggX1_kind_X1_has
theorem dX1_kind_0 : decode cX1_kind 0 = .ok (.aload_n 0, 1) := by decide +kernel
theorem dX1_kind_1 : decode cX1_kind 1 = .ok (.iload_n 1, 1) := by decide +kernel
theorem dX1_kind_2 : decode cX1_kind 2 = .ok (.invokevirtual 41, 3) := by decide +kernel
theorem dX1_kind_5 : decode cX1_kind 5 = .ok (.ifCond .eq 12, 3) := by decide +kernel
theorem dX1_kind_8 : decode cX1_kind 8 = .ok (.aload_n 0, 1) := by decide +kernel
theorem dX1_kind_9 : decode cX1_kind 9 = .ok (.getfield 9, 3) := by decide +kernel
theorem dX1_kind_12 : decode cX1_kind 12 = .ok (.iload_n 1, 1) := by decide +kernel
theorem dX1_kind_13 : decode cX1_kind 13 = .ok (.iaload, 1) := by decide +kernel
theorem dX1_kind_14 : decode cX1_kind 14 = .ok (.goto 4, 3) := by decide +kernel
theorem dX1_kind_17 : decode cX1_kind 17 = .ok (.iconst 0, 1) := by decide +kernel
theorem dX1_kind_18 : decode cX1_kind 18 = .ok (.ireturn, 1) := by decide +kernel
set_option maxRecDepth 20000 in
theorem ggX1_width_X1_has : GoodIn wsX1_width wsX1_has := goodIn_r _ [6, 7, 8, 9, 10, 11, 12, 13] (by decide +kernel) (by decide +kernel)
set_option maxRecDepth 20000 in
theorem gX1_width_X1_has : GoodIn wsX1_width (wsV RX1 41 RX1 yX1_has wsX1_has) := goodIn_app (goodIn_of _ (by decide +kernel)) ggX1_width_X1_has
theorem dX1_width_0 : decode cX1_width 0 = .ok (.aload_n 0, 1) := by decide +kernel
theorem dX1_width_1 : decode cX1_width 1 = .ok (.iload_n 1, 1) := by decide +kernel
theorem dX1_width_2 : decode cX1_width 2 = .ok (.invokevirtual 41, 3) := by decide +kernel
theorem dX1_width_5 : decode cX1_width 5 = .ok (.ifCond .eq 12, 3) := by decide +kernel
theorem dX1_width_8 : decode cX1_width 8 = .ok (.aload_n 0, 1) := by decide +kernel
theorem dX1_width_9 : decode cX1_width 9 = .ok (.getfield 15, 3) := by decide +kernel
theorem dX1_width_12 : decode cX1_width 12 = .ok (.iload_n 1, 1) := by decide +kernel
theorem dX1_width_13 : decode cX1_width 13 = .ok (.iaload, 1) := by decide +kernel
theorem dX1_width_14 : decode cX1_width 14 = .ok (.goto 4, 3) := by decide +kernel
theorem dX1_width_17 : decode cX1_width 17 = .ok (.iconst 0, 1) := by decide +kernel
theorem dX1_width_18 : decode cX1_width 18 = .ok (.ireturn, 1) := by decide +kernel
theorem dX1_opening_0 : decode cX1_opening 0 = .ok (.iload_n 1, 1) := by decide +kernel
theorem dX1_opening_1 : decode cX1_opening 1 = .ok (.ifCond .lt 26, 3) := by decide +kernel
theorem dX1_opening_4 : decode cX1_opening 4 = .ok (.iload_n 1, 1) := by decide +kernel
theorem dX1_opening_5 : decode cX1_opening 5 = .ok (.aload_n 0, 1) := by decide +kernel
theorem dX1_opening_6 : decode cX1_opening 6 = .ok (.getfield 27, 3) := by decide +kernel
theorem dX1_opening_9 : decode cX1_opening 9 = .ok (.if_icmp .ge 18, 3) := by decide +kernel
theorem dX1_opening_12 : decode cX1_opening 12 = .ok (.iload_n 1, 1) := by decide +kernel
theorem dX1_opening_13 : decode cX1_opening 13 = .ok (.bipush 8, 2) := by decide +kernel
theorem dX1_opening_15 : decode cX1_opening 15 = .ok (.if_icmp .ge 12, 3) := by decide +kernel
theorem dX1_opening_18 : decode cX1_opening 18 = .ok (.aload_n 0, 1) := by decide +kernel
theorem dX1_opening_19 : decode cX1_opening 19 = .ok (.getfield 18, 3) := by decide +kernel
theorem dX1_opening_22 : decode cX1_opening 22 = .ok (.iload_n 1, 1) := by decide +kernel
theorem dX1_opening_23 : decode cX1_opening 23 = .ok (.iaload, 1) := by decide +kernel
theorem dX1_opening_24 : decode cX1_opening 24 = .ok (.goto 4, 3) := by decide +kernel
theorem dX1_opening_27 : decode cX1_opening 27 = .ok (.iconst 0, 1) := by decide +kernel
theorem dX1_opening_28 : decode cX1_opening 28 = .ok (.ireturn, 1) := by decide +kernel
set_option maxRecDepth 20000 in
theorem ggX1_waterOut_X1_has : GoodIn wsX1_waterOut wsX1_has := goodIn_r _ [6, 7, 8, 9, 10, 11, 12, 13] (by decide +kernel) (by decide +kernel)
set_option maxRecDepth 20000 in
theorem gX1_waterOut_X1_has : GoodIn wsX1_waterOut (wsV RX1 41 RX1 yX1_has wsX1_has) := goodIn_app (goodIn_of _ (by decide +kernel)) ggX1_waterOut_X1_has
theorem dX1_waterOut_0 : decode cX1_waterOut 0 = .ok (.aload_n 0, 1) := by decide +kernel
theorem dX1_waterOut_1 : decode cX1_waterOut 1 = .ok (.iload_n 1, 1) := by decide +kernel
theorem dX1_waterOut_2 : decode cX1_waterOut 2 = .ok (.invokevirtual 41, 3) := by decide +kernel
theorem dX1_waterOut_5 : decode cX1_waterOut 5 = .ok (.ifCond .eq 12, 3) := by decide +kernel
theorem dX1_waterOut_8 : decode cX1_waterOut 8 = .ok (.aload_n 0, 1) := by decide +kernel
theorem dX1_waterOut_9 : decode cX1_waterOut 9 = .ok (.getfield 21, 3) := by decide +kernel
theorem dX1_waterOut_12 : decode cX1_waterOut 12 = .ok (.iload_n 1, 1) := by decide +kernel
theorem dX1_waterOut_13 : decode cX1_waterOut 13 = .ok (.iaload, 1) := by decide +kernel
theorem dX1_waterOut_14 : decode cX1_waterOut 14 = .ok (.goto 4, 3) := by decide +kernel
theorem dX1_waterOut_17 : decode cX1_waterOut 17 = .ok (.iconst 0, 1) := by decide +kernel
theorem dX1_waterOut_18 : decode cX1_waterOut 18 = .ok (.ireturn, 1) := by decide +kernel
set_option maxRecDepth 20000 in
theorem ggX1_moves_X1_has : GoodIn wsX1_moves wsX1_has := goodIn_r _ [6, 7, 8, 9, 10, 11, 12, 13] (by decide +kernel) (by decide +kernel)
set_option maxRecDepth 20000 in
theorem gX1_moves_X1_has : GoodIn wsX1_moves (wsV RX1 41 RX1 yX1_has wsX1_has) := goodIn_app (goodIn_of _ (by decide +kernel)) ggX1_moves_X1_has
theorem dX1_moves_0 : decode cX1_moves 0 = .ok (.aload_n 0, 1) := by decide +kernel
theorem dX1_moves_1 : decode cX1_moves 1 = .ok (.iload_n 1, 1) := by decide +kernel
theorem dX1_moves_2 : decode cX1_moves 2 = .ok (.invokevirtual 41, 3) := by decide +kernel
theorem dX1_moves_5 : decode cX1_moves 5 = .ok (.ifCond .eq 12, 3) := by decide +kernel
theorem dX1_moves_8 : decode cX1_moves 8 = .ok (.aload_n 0, 1) := by decide +kernel
theorem dX1_moves_9 : decode cX1_moves 9 = .ok (.getfield 24, 3) := by decide +kernel
theorem dX1_moves_12 : decode cX1_moves 12 = .ok (.iload_n 1, 1) := by decide +kernel
theorem dX1_moves_13 : decode cX1_moves 13 = .ok (.iaload, 1) := by decide +kernel
theorem dX1_moves_14 : decode cX1_moves 14 = .ok (.goto 4, 3) := by decide +kernel
theorem dX1_moves_17 : decode cX1_moves 17 = .ok (.iconst 0, 1) := by decide +kernel
theorem dX1_moves_18 : decode cX1_moves 18 = .ok (.ireturn, 1) := by decide +kernel
set_option maxRecDepth 20000 in
theorem ggX1_flow_X1_has : GoodIn wsX1_flow wsX1_has := goodIn_r _ [8, 9, 10, 11, 12, 13, 14, 15] (by decide +kernel) (by decide +kernel)
set_option maxRecDepth 20000 in
theorem gX1_flow_X1_has : GoodIn wsX1_flow (wsV RX1 41 RX1 yX1_has wsX1_has) := goodIn_app (goodIn_of _ (by decide +kernel)) ggX1_flow_X1_has
theorem dX1_flow_0 : decode cX1_flow 0 = .ok (.aload_n 0, 1) := by decide +kernel
theorem dX1_flow_1 : decode cX1_flow 1 = .ok (.iload_n 1, 1) := by decide +kernel
theorem dX1_flow_2 : decode cX1_flow 2 = .ok (.invokevirtual 41, 3) := by decide +kernel
theorem dX1_flow_5 : decode cX1_flow 5 = .ok (.ifCond .eq 24, 3) := by decide +kernel
theorem dX1_flow_8 : decode cX1_flow 8 = .ok (.aload_n 0, 1) := by decide +kernel
theorem dX1_flow_9 : decode cX1_flow 9 = .ok (.getfield 9, 3) := by decide +kernel
theorem dX1_flow_12 : decode cX1_flow 12 = .ok (.iload_n 1, 1) := by decide +kernel
theorem dX1_flow_13 : decode cX1_flow 13 = .ok (.iaload, 1) := by decide +kernel
theorem dX1_flow_14 : decode cX1_flow 14 = .ok (.iconst 2, 1) := by decide +kernel
theorem dX1_flow_15 : decode cX1_flow 15 = .ok (.if_icmp .ne 16, 3) := by decide +kernel
theorem dX1_flow_18 : decode cX1_flow 18 = .ok (.aload_n 0, 1) := by decide +kernel
theorem dX1_flow_19 : decode cX1_flow 19 = .ok (.getfield 18, 3) := by decide +kernel
theorem dX1_flow_22 : decode cX1_flow 22 = .ok (.iload_n 1, 1) := by decide +kernel
theorem dX1_flow_23 : decode cX1_flow 23 = .ok (.iaload, 1) := by decide +kernel
theorem dX1_flow_24 : decode cX1_flow 24 = .ok (.bipush 10, 2) := by decide +kernel
theorem dX1_flow_26 : decode cX1_flow 26 = .ok (.if_icmp .ge 5, 3) := by decide +kernel
theorem dX1_flow_29 : decode cX1_flow 29 = .ok (.iconst 0, 1) := by decide +kernel
theorem dX1_flow_30 : decode cX1_flow 30 = .ok (.ireturn, 1) := by decide +kernel
theorem dX1_flow_31 : decode cX1_flow 31 = .ok (.aload_n 0, 1) := by decide +kernel
theorem dX1_flow_32 : decode cX1_flow 32 = .ok (.getfield 15, 3) := by decide +kernel
theorem dX1_flow_35 : decode cX1_flow 35 = .ok (.iload_n 1, 1) := by decide +kernel
theorem dX1_flow_36 : decode cX1_flow 36 = .ok (.iaload, 1) := by decide +kernel
theorem dX1_flow_37 : decode cX1_flow 37 = .ok (.aload_n 0, 1) := by decide +kernel
theorem dX1_flow_38 : decode cX1_flow 38 = .ok (.getfield 18, 3) := by decide +kernel
theorem dX1_flow_41 : decode cX1_flow 41 = .ok (.iload_n 1, 1) := by decide +kernel
theorem dX1_flow_42 : decode cX1_flow 42 = .ok (.iaload, 1) := by decide +kernel
theorem dX1_flow_43 : decode cX1_flow 43 = .ok (.imul, 1) := by decide +kernel
theorem dX1_flow_44 : decode cX1_flow 44 = .ok (.iload_n 2, 1) := by decide +kernel
theorem dX1_flow_45 : decode cX1_flow 45 = .ok (.imul, 1) := by decide +kernel
theorem dX1_flow_46 : decode cX1_flow 46 = .ok (.bipush 10, 2) := by decide +kernel
theorem dX1_flow_48 : decode cX1_flow 48 = .ok (.idiv, 1) := by decide +kernel
theorem dX1_flow_49 : decode cX1_flow 49 = .ok (.istore_n 3, 1) := by decide +kernel
theorem dX1_flow_50 : decode cX1_flow 50 = .ok (.aload_n 0, 1) := by decide +kernel
theorem dX1_flow_51 : decode cX1_flow 51 = .ok (.getfield 9, 3) := by decide +kernel
theorem dX1_flow_54 : decode cX1_flow 54 = .ok (.iload_n 1, 1) := by decide +kernel
theorem dX1_flow_55 : decode cX1_flow 55 = .ok (.iaload, 1) := by decide +kernel
theorem dX1_flow_56 : decode cX1_flow 56 = .ok (.iconst 1, 1) := by decide +kernel
theorem dX1_flow_57 : decode cX1_flow 57 = .ok (.if_icmp .ne 20, 3) := by decide +kernel
theorem dX1_flow_60 : decode cX1_flow 60 = .ok (.iload_n 2, 1) := by decide +kernel
theorem dX1_flow_61 : decode cX1_flow 61 = .ok (.bipush 8, 2) := by decide +kernel
theorem dX1_flow_63 : decode cX1_flow 63 = .ok (.if_icmp .lt 14, 3) := by decide +kernel
theorem dX1_flow_66 : decode cX1_flow 66 = .ok (.iload_n 3, 1) := by decide +kernel
theorem dX1_flow_67 : decode cX1_flow 67 = .ok (.aload_n 0, 1) := by decide +kernel
theorem dX1_flow_68 : decode cX1_flow 68 = .ok (.getfield 15, 3) := by decide +kernel
theorem dX1_flow_71 : decode cX1_flow 71 = .ok (.iload_n 1, 1) := by decide +kernel
theorem dX1_flow_72 : decode cX1_flow 72 = .ok (.iaload, 1) := by decide +kernel
theorem dX1_flow_73 : decode cX1_flow 73 = .ok (.iadd, 1) := by decide +kernel
theorem dX1_flow_74 : decode cX1_flow 74 = .ok (.goto 4, 3) := by decide +kernel
theorem dX1_flow_77 : decode cX1_flow 77 = .ok (.iload_n 3, 1) := by decide +kernel
theorem dX1_flow_78 : decode cX1_flow 78 = .ok (.ireturn, 1) := by decide +kernel
set_option maxRecDepth 20000 in
theorem ggX1_letOut_X1_has : GoodIn wsX1_letOut wsX1_has := goodIn_r _ [6, 7, 8, 9, 10, 11, 12, 13] (by decide +kernel) (by decide +kernel)
set_option maxRecDepth 20000 in
theorem gX1_letOut_X1_has : GoodIn wsX1_letOut (wsV RX1 41 RX1 yX1_has wsX1_has) := goodIn_app (goodIn_of _ (by decide +kernel)) ggX1_letOut_X1_has
theorem dX1_letOut_0 : decode cX1_letOut 0 = .ok (.aload_n 0, 1) := by decide +kernel
theorem dX1_letOut_1 : decode cX1_letOut 1 = .ok (.iload_n 1, 1) := by decide +kernel
theorem dX1_letOut_2 : decode cX1_letOut 2 = .ok (.invokevirtual 41, 3) := by decide +kernel
theorem dX1_letOut_5 : decode cX1_letOut 5 = .ok (.ifCond .eq 13, 3) := by decide +kernel
theorem dX1_letOut_8 : decode cX1_letOut 8 = .ok (.aload_n 0, 1) := by decide +kernel
theorem dX1_letOut_9 : decode cX1_letOut 9 = .ok (.getfield 21, 3) := by decide +kernel
theorem dX1_letOut_12 : decode cX1_letOut 12 = .ok (.iload_n 1, 1) := by decide +kernel
theorem dX1_letOut_13 : decode cX1_letOut 13 = .ok (.dup2, 1) := by decide +kernel
theorem dX1_letOut_14 : decode cX1_letOut 14 = .ok (.iaload, 1) := by decide +kernel
theorem dX1_letOut_15 : decode cX1_letOut 15 = .ok (.iload_n 2, 1) := by decide +kernel
theorem dX1_letOut_16 : decode cX1_letOut 16 = .ok (.iadd, 1) := by decide +kernel
theorem dX1_letOut_17 : decode cX1_letOut 17 = .ok (.iastore, 1) := by decide +kernel
theorem dX1_letOut_18 : decode cX1_letOut 18 = .ok (.return_, 1) := by decide +kernel
set_option maxRecDepth 20000 in
theorem ggX1_moveTowards_X1_has : GoodIn wsX1_moveTowards wsX1_has := goodIn_r _ [15, 16, 17, 18, 19, 20, 21, 22] (by decide +kernel) (by decide +kernel)
set_option maxRecDepth 20000 in
theorem gX1_moveTowards_X1_has : GoodIn wsX1_moveTowards (wsV RX1 41 RX1 yX1_has wsX1_has) := goodIn_app (goodIn_of _ (by decide +kernel)) ggX1_moveTowards_X1_has
theorem dX1_moveTowards_0 : decode cX1_moveTowards 0 = .ok (.aload_n 0, 1) := by decide +kernel
theorem dX1_moveTowards_1 : decode cX1_moveTowards 1 = .ok (.iload_n 1, 1) := by decide +kernel
theorem dX1_moveTowards_2 : decode cX1_moveTowards 2 = .ok (.invokevirtual 41, 3) := by decide +kernel
theorem dX1_moveTowards_5 : decode cX1_moveTowards 5 = .ok (.ifCond .ne 4, 3) := by decide +kernel
theorem dX1_moveTowards_8 : decode cX1_moveTowards 8 = .ok (.return_, 1) := by decide +kernel
theorem dX1_moveTowards_9 : decode cX1_moveTowards 9 = .ok (.iload_n 2, 1) := by decide +kernel
theorem dX1_moveTowards_10 : decode cX1_moveTowards 10 = .ok (.aload_n 0, 1) := by decide +kernel
theorem dX1_moveTowards_11 : decode cX1_moveTowards 11 = .ok (.getfield 18, 3) := by decide +kernel
theorem dX1_moveTowards_14 : decode cX1_moveTowards 14 = .ok (.iload_n 1, 1) := by decide +kernel
theorem dX1_moveTowards_15 : decode cX1_moveTowards 15 = .ok (.iaload, 1) := by decide +kernel
theorem dX1_moveTowards_16 : decode cX1_moveTowards 16 = .ok (.isub, 1) := by decide +kernel
theorem dX1_moveTowards_17 : decode cX1_moveTowards 17 = .ok (.istore_n 3, 1) := by decide +kernel
theorem dX1_moveTowards_18 : decode cX1_moveTowards 18 = .ok (.aload_n 0, 1) := by decide +kernel
theorem dX1_moveTowards_19 : decode cX1_moveTowards 19 = .ok (.getfield 9, 3) := by decide +kernel
theorem dX1_moveTowards_22 : decode cX1_moveTowards 22 = .ok (.iload_n 1, 1) := by decide +kernel
theorem dX1_moveTowards_23 : decode cX1_moveTowards 23 = .ok (.iaload, 1) := by decide +kernel
theorem dX1_moveTowards_24 : decode cX1_moveTowards 24 = .ok (.iconst 2, 1) := by decide +kernel
theorem dX1_moveTowards_25 : decode cX1_moveTowards 25 = .ok (.if_icmp .ne 7, 3) := by decide +kernel
theorem dX1_moveTowards_28 : decode cX1_moveTowards 28 = .ok (.iconst 2, 1) := by decide +kernel
theorem dX1_moveTowards_29 : decode cX1_moveTowards 29 = .ok (.goto 4, 3) := by decide +kernel
theorem dX1_moveTowards_32 : decode cX1_moveTowards 32 = .ok (.iconst 1, 1) := by decide +kernel
theorem dX1_moveTowards_33 : decode cX1_moveTowards 33 = .ok (.iload_n 3, 1) := by decide +kernel
theorem dX1_moveTowards_34 : decode cX1_moveTowards 34 = .ok (.invokestatic 45, 3) := by decide +kernel
theorem dX1_moveTowards_37 : decode cX1_moveTowards 37 = .ok (.invokestatic 51, 3) := by decide +kernel
theorem dX1_moveTowards_40 : decode cX1_moveTowards 40 = .ok (.istore 4, 2) := by decide +kernel
theorem dX1_moveTowards_42 : decode cX1_moveTowards 42 = .ok (.aload_n 0, 1) := by decide +kernel
theorem dX1_moveTowards_43 : decode cX1_moveTowards 43 = .ok (.getfield 18, 3) := by decide +kernel
theorem dX1_moveTowards_46 : decode cX1_moveTowards 46 = .ok (.iload_n 1, 1) := by decide +kernel
theorem dX1_moveTowards_47 : decode cX1_moveTowards 47 = .ok (.dup2, 1) := by decide +kernel
theorem dX1_moveTowards_48 : decode cX1_moveTowards 48 = .ok (.iaload, 1) := by decide +kernel
theorem dX1_moveTowards_49 : decode cX1_moveTowards 49 = .ok (.iload_n 3, 1) := by decide +kernel
theorem dX1_moveTowards_50 : decode cX1_moveTowards 50 = .ok (.ifCond .ge 9, 3) := by decide +kernel
theorem dX1_moveTowards_53 : decode cX1_moveTowards 53 = .ok (.iload 4, 2) := by decide +kernel
theorem dX1_moveTowards_55 : decode cX1_moveTowards 55 = .ok (.ineg, 1) := by decide +kernel
theorem dX1_moveTowards_56 : decode cX1_moveTowards 56 = .ok (.goto 5, 3) := by decide +kernel
theorem dX1_moveTowards_59 : decode cX1_moveTowards 59 = .ok (.iload 4, 2) := by decide +kernel
theorem dX1_moveTowards_61 : decode cX1_moveTowards 61 = .ok (.iadd, 1) := by decide +kernel
theorem dX1_moveTowards_62 : decode cX1_moveTowards 62 = .ok (.iastore, 1) := by decide +kernel
theorem dX1_moveTowards_63 : decode cX1_moveTowards 63 = .ok (.aload_n 0, 1) := by decide +kernel
theorem dX1_moveTowards_64 : decode cX1_moveTowards 64 = .ok (.getfield 24, 3) := by decide +kernel
theorem dX1_moveTowards_67 : decode cX1_moveTowards 67 = .ok (.iload_n 1, 1) := by decide +kernel
theorem dX1_moveTowards_68 : decode cX1_moveTowards 68 = .ok (.dup2, 1) := by decide +kernel
theorem dX1_moveTowards_69 : decode cX1_moveTowards 69 = .ok (.iaload, 1) := by decide +kernel
theorem dX1_moveTowards_70 : decode cX1_moveTowards 70 = .ok (.iconst 1, 1) := by decide +kernel
theorem dX1_moveTowards_71 : decode cX1_moveTowards 71 = .ok (.iadd, 1) := by decide +kernel
theorem dX1_moveTowards_72 : decode cX1_moveTowards 72 = .ok (.iastore, 1) := by decide +kernel
theorem dX1_moveTowards_73 : decode cX1_moveTowards 73 = .ok (.return_, 1) := by decide +kernel
theorem dX1_nearestNotOpen_0 : decode cX1_nearestNotOpen 0 = .ok (.iconst (-1), 1) := by decide +kernel
theorem dX1_nearestNotOpen_1 : decode cX1_nearestNotOpen 1 = .ok (.istore_n 2, 1) := by decide +kernel
theorem dX1_nearestNotOpen_2 : decode cX1_nearestNotOpen 2 = .ok (.iconst 0, 1) := by decide +kernel
theorem dX1_nearestNotOpen_3 : decode cX1_nearestNotOpen 3 = .ok (.istore_n 3, 1) := by decide +kernel
theorem dX1_nearestNotOpen_4 : decode cX1_nearestNotOpen 4 = .ok (.iload_n 3, 1) := by decide +kernel
theorem dX1_nearestNotOpen_5 : decode cX1_nearestNotOpen 5 = .ok (.aload_n 0, 1) := by decide +kernel
theorem dX1_nearestNotOpen_6 : decode cX1_nearestNotOpen 6 = .ok (.getfield 27, 3) := by decide +kernel
theorem dX1_nearestNotOpen_9 : decode cX1_nearestNotOpen 9 = .ok (.if_icmp .ge 60, 3) := by decide +kernel
theorem dX1_nearestNotOpen_12 : decode cX1_nearestNotOpen 12 = .ok (.iload_n 3, 1) := by decide +kernel
theorem dX1_nearestNotOpen_13 : decode cX1_nearestNotOpen 13 = .ok (.bipush 8, 2) := by decide +kernel
theorem dX1_nearestNotOpen_15 : decode cX1_nearestNotOpen 15 = .ok (.if_icmp .ge 54, 3) := by decide +kernel
theorem dX1_nearestNotOpen_18 : decode cX1_nearestNotOpen 18 = .ok (.iload_n 2, 1) := by decide +kernel
theorem dX1_nearestNotOpen_19 : decode cX1_nearestNotOpen 19 = .ok (.iconst (-1), 1) := by decide +kernel
theorem dX1_nearestNotOpen_20 : decode cX1_nearestNotOpen 20 = .ok (.if_icmp .eq 18, 3) := by decide +kernel
theorem dX1_nearestNotOpen_23 : decode cX1_nearestNotOpen 23 = .ok (.iload_n 3, 1) := by decide +kernel
theorem dX1_nearestNotOpen_24 : decode cX1_nearestNotOpen 24 = .ok (.iload_n 1, 1) := by decide +kernel
theorem dX1_nearestNotOpen_25 : decode cX1_nearestNotOpen 25 = .ok (.isub, 1) := by decide +kernel
theorem dX1_nearestNotOpen_26 : decode cX1_nearestNotOpen 26 = .ok (.invokestatic 45, 3) := by decide +kernel
theorem dX1_nearestNotOpen_29 : decode cX1_nearestNotOpen 29 = .ok (.iload_n 2, 1) := by decide +kernel
theorem dX1_nearestNotOpen_30 : decode cX1_nearestNotOpen 30 = .ok (.iload_n 1, 1) := by decide +kernel
theorem dX1_nearestNotOpen_31 : decode cX1_nearestNotOpen 31 = .ok (.isub, 1) := by decide +kernel
theorem dX1_nearestNotOpen_32 : decode cX1_nearestNotOpen 32 = .ok (.invokestatic 45, 3) := by decide +kernel
theorem dX1_nearestNotOpen_35 : decode cX1_nearestNotOpen 35 = .ok (.if_icmp .ge 7, 3) := by decide +kernel
theorem dX1_nearestNotOpen_38 : decode cX1_nearestNotOpen 38 = .ok (.iconst 1, 1) := by decide +kernel
theorem dX1_nearestNotOpen_39 : decode cX1_nearestNotOpen 39 = .ok (.goto 4, 3) := by decide +kernel
theorem dX1_nearestNotOpen_42 : decode cX1_nearestNotOpen 42 = .ok (.iconst 0, 1) := by decide +kernel
theorem dX1_nearestNotOpen_43 : decode cX1_nearestNotOpen 43 = .ok (.istore 4, 2) := by decide +kernel
theorem dX1_nearestNotOpen_45 : decode cX1_nearestNotOpen 45 = .ok (.aload_n 0, 1) := by decide +kernel
theorem dX1_nearestNotOpen_46 : decode cX1_nearestNotOpen 46 = .ok (.getfield 18, 3) := by decide +kernel
theorem dX1_nearestNotOpen_49 : decode cX1_nearestNotOpen 49 = .ok (.iload_n 3, 1) := by decide +kernel
theorem dX1_nearestNotOpen_50 : decode cX1_nearestNotOpen 50 = .ok (.iaload, 1) := by decide +kernel
theorem dX1_nearestNotOpen_51 : decode cX1_nearestNotOpen 51 = .ok (.bipush 10, 2) := by decide +kernel
theorem dX1_nearestNotOpen_53 : decode cX1_nearestNotOpen 53 = .ok (.if_icmp .eq 10, 3) := by decide +kernel
theorem dX1_nearestNotOpen_56 : decode cX1_nearestNotOpen 56 = .ok (.iload 4, 2) := by decide +kernel
theorem dX1_nearestNotOpen_58 : decode cX1_nearestNotOpen 58 = .ok (.ifCond .eq 5, 3) := by decide +kernel
theorem dX1_nearestNotOpen_61 : decode cX1_nearestNotOpen 61 = .ok (.iload_n 3, 1) := by decide +kernel
theorem dX1_nearestNotOpen_62 : decode cX1_nearestNotOpen 62 = .ok (.istore_n 2, 1) := by decide +kernel
theorem dX1_nearestNotOpen_63 : decode cX1_nearestNotOpen 63 = .ok (.iinc 3 1, 3) := by decide +kernel
theorem dX1_nearestNotOpen_66 : decode cX1_nearestNotOpen 66 = .ok (.goto (-62), 3) := by decide +kernel
theorem dX1_nearestNotOpen_69 : decode cX1_nearestNotOpen 69 = .ok (.iload_n 2, 1) := by decide +kernel
theorem dX1_nearestNotOpen_70 : decode cX1_nearestNotOpen 70 = .ok (.ireturn, 1) := by decide +kernel
set_option maxRecDepth 20000 in
theorem ggX2_init_X0_init : GoodIn wsX2_init wsX0_init := goodIn_r _ [9, 10, 2, 3, 11, 12, 13, 14, 15, 16, 17, 18, 19, 20, 21, 22, 23, 24, 25, 26, 27, 28, 29, 30, 31, 32, 33, 34, 35, 36, 37, 38, 39, 40, 41, 62, 63, 64, 65, 66, 67, 44, 45, 46, 47, 48, 49, 50, 51, 52, 53, 54, 55, 56, 57, 58, 59, 60, 61, 68, 69, 70, 71] (by decide +kernel) (by decide +kernel)
set_option maxRecDepth 20000 in
theorem gX2_init_X0_init_n17 : GoodIn wsX2_init (wsX0_init) := ggX2_init_X0_init
theorem dX2_init_0 : decode cX2_init 0 = .ok (.aload_n 0, 1) := by decide +kernel
theorem dX2_init_1 : decode cX2_init 1 = .ok (.invokespecial 3, 3) := by decide +kernel
theorem dX2_init_4 : decode cX2_init 4 = .ok (.aload_n 0, 1) := by decide +kernel
theorem dX2_init_5 : decode cX2_init 5 = .ok (.iconst 5, 1) := by decide +kernel
theorem dX2_init_6 : decode cX2_init 6 = .ok (.anewarray 9, 3) := by decide +kernel
theorem dX2_init_9 : decode cX2_init 9 = .ok (.putfield 11, 3) := by decide +kernel
theorem dX2_init_12 : decode cX2_init 12 = .ok (.iconst 0, 1) := by decide +kernel
theorem dX2_init_13 : decode cX2_init 13 = .ok (.istore_n 1, 1) := by decide +kernel
theorem dX2_init_14 : decode cX2_init 14 = .ok (.iload_n 1, 1) := by decide +kernel
theorem dX2_init_15 : decode cX2_init 15 = .ok (.aload_n 0, 1) := by decide +kernel
theorem dX2_init_16 : decode cX2_init 16 = .ok (.getfield 11, 3) := by decide +kernel
theorem dX2_init_19 : decode cX2_init 19 = .ok (.arraylength, 1) := by decide +kernel
theorem dX2_init_20 : decode cX2_init 20 = .ok (.if_icmp .ge 22, 3) := by decide +kernel
theorem dX2_init_23 : decode cX2_init 23 = .ok (.aload_n 0, 1) := by decide +kernel
theorem dX2_init_24 : decode cX2_init 24 = .ok (.getfield 11, 3) := by decide +kernel
theorem dX2_init_27 : decode cX2_init 27 = .ok (.iload_n 1, 1) := by decide +kernel
theorem dX2_init_28 : decode cX2_init 28 = .ok (.new 9, 3) := by decide +kernel
theorem dX2_init_31 : decode cX2_init 31 = .ok (.dup, 1) := by decide +kernel
theorem dX2_init_32 : decode cX2_init 32 = .ok (.invokespecial 17, 3) := by decide +kernel
theorem dX2_init_35 : decode cX2_init 35 = .ok (.aastore, 1) := by decide +kernel
theorem dX2_init_36 : decode cX2_init 36 = .ok (.iinc 1 1, 3) := by decide +kernel
theorem dX2_init_39 : decode cX2_init 39 = .ok (.goto (-25), 3) := by decide +kernel
theorem dX2_init_42 : decode cX2_init 42 = .ok (.return_, 1) := by decide +kernel
theorem dX2_size_0 : decode cX2_size 0 = .ok (.aload_n 0, 1) := by decide +kernel
theorem dX2_size_1 : decode cX2_size 1 = .ok (.getfield 18, 3) := by decide +kernel
theorem dX2_size_4 : decode cX2_size 4 = .ok (.ireturn, 1) := by decide +kernel
set_option maxRecDepth 20000 in
theorem ggX2_prepare_X2_state : GoodIn wsX2_prepare wsX2_state := goodIn_r _ [6, 7, 56, 57] (by decide +kernel) (by decide +kernel)
set_option maxRecDepth 20000 in
theorem gX2_prepare_X2_state : GoodIn wsX2_prepare (wsV RX2 22 RX2 yX2_state wsX2_state) := goodIn_app (goodIn_of _ (by decide +kernel)) ggX2_prepare_X2_state
set_option maxRecDepth 20000 in
theorem ggX2_prepare_X0_copyFrom : GoodIn wsX2_prepare wsX0_copyFrom := goodIn_r _ [12, 13, 14, 15, 16, 17, 18, 19, 20, 21, 22, 23, 24, 25, 26, 27, 28, 29, 30, 31, 32, 33, 34, 35, 36, 37, 38, 39, 40, 41, 42, 43, 44, 45, 46, 47, 48, 49, 50, 51, 52, 53, 54, 55, 58, 59, 60, 61, 62, 63, 64, 65, 66, 67, 68, 69, 70, 71, 72, 73, 74, 75, 76, 77, 78, 79, 80, 81, 82, 83, 84, 85] (by decide +kernel) (by decide +kernel)
set_option maxRecDepth 20000 in
theorem gX2_prepare_X0_copyFrom : GoodIn wsX2_prepare (wsV RX2 26 RX0 yX0_copyFrom wsX0_copyFrom) := goodIn_app (goodIn_of _ (by decide +kernel)) ggX2_prepare_X0_copyFrom
theorem dX2_prepare_0 : decode cX2_prepare 0 = .ok (.aload_n 0, 1) := by decide +kernel
theorem dX2_prepare_1 : decode cX2_prepare 1 = .ok (.aload_n 0, 1) := by decide +kernel
theorem dX2_prepare_2 : decode cX2_prepare 2 = .ok (.getfield 18, 3) := by decide +kernel
theorem dX2_prepare_5 : decode cX2_prepare 5 = .ok (.invokevirtual 22, 3) := by decide +kernel
theorem dX2_prepare_8 : decode cX2_prepare 8 = .ok (.astore_n 2, 1) := by decide +kernel
theorem dX2_prepare_9 : decode cX2_prepare 9 = .ok (.aload_n 2, 1) := by decide +kernel
theorem dX2_prepare_10 : decode cX2_prepare 10 = .ok (.ifnull 8, 3) := by decide +kernel
theorem dX2_prepare_13 : decode cX2_prepare 13 = .ok (.aload_n 2, 1) := by decide +kernel
theorem dX2_prepare_14 : decode cX2_prepare 14 = .ok (.aload_n 1, 1) := by decide +kernel
theorem dX2_prepare_15 : decode cX2_prepare 15 = .ok (.invokevirtual 26, 3) := by decide +kernel
theorem dX2_prepare_18 : decode cX2_prepare 18 = .ok (.return_, 1) := by decide +kernel
theorem dX2_keepPrepared_0 : decode cX2_keepPrepared 0 = .ok (.aload_n 0, 1) := by decide +kernel
theorem dX2_keepPrepared_1 : decode cX2_keepPrepared 1 = .ok (.getfield 18, 3) := by decide +kernel
theorem dX2_keepPrepared_4 : decode cX2_keepPrepared 4 = .ok (.iconst 4, 1) := by decide +kernel
theorem dX2_keepPrepared_5 : decode cX2_keepPrepared 5 = .ok (.if_icmp .ge 14, 3) := by decide +kernel
theorem dX2_keepPrepared_8 : decode cX2_keepPrepared 8 = .ok (.aload_n 0, 1) := by decide +kernel
theorem dX2_keepPrepared_9 : decode cX2_keepPrepared 9 = .ok (.dup, 1) := by decide +kernel
theorem dX2_keepPrepared_10 : decode cX2_keepPrepared 10 = .ok (.getfield 18, 3) := by decide +kernel
theorem dX2_keepPrepared_13 : decode cX2_keepPrepared 13 = .ok (.iconst 1, 1) := by decide +kernel
theorem dX2_keepPrepared_14 : decode cX2_keepPrepared 14 = .ok (.iadd, 1) := by decide +kernel
theorem dX2_keepPrepared_15 : decode cX2_keepPrepared 15 = .ok (.putfield 18, 3) := by decide +kernel
theorem dX2_keepPrepared_18 : decode cX2_keepPrepared 18 = .ok (.return_, 1) := by decide +kernel
theorem dX2_keepPrepared_19 : decode cX2_keepPrepared 19 = .ok (.aload_n 0, 1) := by decide +kernel
theorem dX2_keepPrepared_20 : decode cX2_keepPrepared 20 = .ok (.getfield 11, 3) := by decide +kernel
theorem dX2_keepPrepared_23 : decode cX2_keepPrepared 23 = .ok (.iconst 0, 1) := by decide +kernel
theorem dX2_keepPrepared_24 : decode cX2_keepPrepared 24 = .ok (.aaload, 1) := by decide +kernel
theorem dX2_keepPrepared_25 : decode cX2_keepPrepared 25 = .ok (.astore_n 1, 1) := by decide +kernel
theorem dX2_keepPrepared_26 : decode cX2_keepPrepared 26 = .ok (.iconst 1, 1) := by decide +kernel
theorem dX2_keepPrepared_27 : decode cX2_keepPrepared 27 = .ok (.istore_n 2, 1) := by decide +kernel
theorem dX2_keepPrepared_28 : decode cX2_keepPrepared 28 = .ok (.iload_n 2, 1) := by decide +kernel
theorem dX2_keepPrepared_29 : decode cX2_keepPrepared 29 = .ok (.aload_n 0, 1) := by decide +kernel
theorem dX2_keepPrepared_30 : decode cX2_keepPrepared 30 = .ok (.getfield 11, 3) := by decide +kernel
theorem dX2_keepPrepared_33 : decode cX2_keepPrepared 33 = .ok (.arraylength, 1) := by decide +kernel
theorem dX2_keepPrepared_34 : decode cX2_keepPrepared 34 = .ok (.if_icmp .ge 23, 3) := by decide +kernel
theorem dX2_keepPrepared_37 : decode cX2_keepPrepared 37 = .ok (.aload_n 0, 1) := by decide +kernel
theorem dX2_keepPrepared_38 : decode cX2_keepPrepared 38 = .ok (.getfield 11, 3) := by decide +kernel
theorem dX2_keepPrepared_41 : decode cX2_keepPrepared 41 = .ok (.iload_n 2, 1) := by decide +kernel
theorem dX2_keepPrepared_42 : decode cX2_keepPrepared 42 = .ok (.iconst 1, 1) := by decide +kernel
theorem dX2_keepPrepared_43 : decode cX2_keepPrepared 43 = .ok (.isub, 1) := by decide +kernel
theorem dX2_keepPrepared_44 : decode cX2_keepPrepared 44 = .ok (.aload_n 0, 1) := by decide +kernel
theorem dX2_keepPrepared_45 : decode cX2_keepPrepared 45 = .ok (.getfield 11, 3) := by decide +kernel
theorem dX2_keepPrepared_48 : decode cX2_keepPrepared 48 = .ok (.iload_n 2, 1) := by decide +kernel
theorem dX2_keepPrepared_49 : decode cX2_keepPrepared 49 = .ok (.aaload, 1) := by decide +kernel
theorem dX2_keepPrepared_50 : decode cX2_keepPrepared 50 = .ok (.aastore, 1) := by decide +kernel
theorem dX2_keepPrepared_51 : decode cX2_keepPrepared 51 = .ok (.iinc 2 1, 3) := by decide +kernel
theorem dX2_keepPrepared_54 : decode cX2_keepPrepared 54 = .ok (.goto (-26), 3) := by decide +kernel
theorem dX2_keepPrepared_57 : decode cX2_keepPrepared 57 = .ok (.aload_n 0, 1) := by decide +kernel
theorem dX2_keepPrepared_58 : decode cX2_keepPrepared 58 = .ok (.getfield 11, 3) := by decide +kernel
theorem dX2_keepPrepared_61 : decode cX2_keepPrepared 61 = .ok (.iconst 4, 1) := by decide +kernel
theorem dX2_keepPrepared_62 : decode cX2_keepPrepared 62 = .ok (.aload_n 1, 1) := by decide +kernel
theorem dX2_keepPrepared_63 : decode cX2_keepPrepared 63 = .ok (.aastore, 1) := by decide +kernel
theorem dX2_keepPrepared_64 : decode cX2_keepPrepared 64 = .ok (.return_, 1) := by decide +kernel
set_option maxRecDepth 20000 in
theorem ggX2_restore_X2_state : GoodIn wsX2_restore wsX2_state := goodIn_r _ [6, 7, 56, 57] (by decide +kernel) (by decide +kernel)
set_option maxRecDepth 20000 in
theorem gX2_restore_X2_state : GoodIn wsX2_restore (wsV RX2 22 RX2 yX2_state wsX2_state) := goodIn_app (goodIn_of _ (by decide +kernel)) ggX2_restore_X2_state
set_option maxRecDepth 20000 in
theorem ggX2_restore_X0_copyFrom : GoodIn wsX2_restore wsX0_copyFrom := goodIn_r _ [12, 13, 14, 15, 16, 17, 18, 19, 20, 21, 22, 23, 24, 25, 26, 27, 28, 29, 30, 31, 32, 33, 34, 35, 36, 37, 38, 39, 40, 41, 42, 43, 44, 45, 46, 47, 48, 49, 50, 51, 52, 53, 54, 55, 58, 59, 60, 61, 62, 63, 64, 65, 66, 67, 68, 69, 70, 71, 72, 73, 74, 75, 76, 77, 78, 79, 80, 81, 82, 83, 84, 85] (by decide +kernel) (by decide +kernel)
set_option maxRecDepth 20000 in
theorem gX2_restore_X0_copyFrom : GoodIn wsX2_restore (wsV RX2 26 RX0 yX0_copyFrom wsX0_copyFrom) := goodIn_app (goodIn_of _ (by decide +kernel)) ggX2_restore_X0_copyFrom
theorem dX2_restore_0 : decode cX2_restore 0 = .ok (.aload_n 0, 1) := by decide +kernel
theorem dX2_restore_1 : decode cX2_restore 1 = .ok (.aload_n 0, 1) := by decide +kernel
theorem dX2_restore_2 : decode cX2_restore 2 = .ok (.getfield 18, 3) := by decide +kernel
theorem dX2_restore_5 : decode cX2_restore 5 = .ok (.iconst 1, 1) := by decide +kernel
theorem dX2_restore_6 : decode cX2_restore 6 = .ok (.isub, 1) := by decide +kernel
theorem dX2_restore_7 : decode cX2_restore 7 = .ok (.invokevirtual 22, 3) := by decide +kernel
theorem dX2_restore_10 : decode cX2_restore 10 = .ok (.astore_n 2, 1) := by decide +kernel
theorem dX2_restore_11 : decode cX2_restore 11 = .ok (.aload_n 2, 1) := by decide +kernel
theorem dX2_restore_12 : decode cX2_restore 12 = .ok (.ifnull 18, 3) := by decide +kernel
theorem dX2_restore_15 : decode cX2_restore 15 = .ok (.aload_n 1, 1) := by decide +kernel
theorem dX2_restore_16 : decode cX2_restore 16 = .ok (.aload_n 2, 1) := by decide +kernel
theorem dX2_restore_17 : decode cX2_restore 17 = .ok (.invokevirtual 26, 3) := by decide +kernel
theorem dX2_restore_20 : decode cX2_restore 20 = .ok (.aload_n 0, 1) := by decide +kernel
theorem dX2_restore_21 : decode cX2_restore 21 = .ok (.dup, 1) := by decide +kernel
theorem dX2_restore_22 : decode cX2_restore 22 = .ok (.getfield 18, 3) := by decide +kernel
theorem dX2_restore_25 : decode cX2_restore 25 = .ok (.iconst 1, 1) := by decide +kernel
theorem dX2_restore_26 : decode cX2_restore 26 = .ok (.isub, 1) := by decide +kernel
theorem dX2_restore_27 : decode cX2_restore 27 = .ok (.putfield 18, 3) := by decide +kernel
theorem dX2_restore_30 : decode cX2_restore 30 = .ok (.return_, 1) := by decide +kernel
theorem dX2_state_0 : decode cX2_state 0 = .ok (.iload_n 1, 1) := by decide +kernel
theorem dX2_state_1 : decode cX2_state 1 = .ok (.ifCond .lt 21, 3) := by decide +kernel
theorem dX2_state_4 : decode cX2_state 4 = .ok (.iload_n 1, 1) := by decide +kernel
theorem dX2_state_5 : decode cX2_state 5 = .ok (.aload_n 0, 1) := by decide +kernel
theorem dX2_state_6 : decode cX2_state 6 = .ok (.getfield 11, 3) := by decide +kernel
theorem dX2_state_9 : decode cX2_state 9 = .ok (.arraylength, 1) := by decide +kernel
theorem dX2_state_10 : decode cX2_state 10 = .ok (.if_icmp .ge 12, 3) := by decide +kernel
theorem dX2_state_13 : decode cX2_state 13 = .ok (.aload_n 0, 1) := by decide +kernel
theorem dX2_state_14 : decode cX2_state 14 = .ok (.getfield 11, 3) := by decide +kernel
theorem dX2_state_17 : decode cX2_state 17 = .ok (.iload_n 1, 1) := by decide +kernel
theorem dX2_state_18 : decode cX2_state 18 = .ok (.aaload, 1) := by decide +kernel
theorem dX2_state_19 : decode cX2_state 19 = .ok (.goto 4, 3) := by decide +kernel
theorem dX2_state_22 : decode cX2_state 22 = .ok (.aconst_null, 1) := by decide +kernel
theorem dX2_state_23 : decode cX2_state 23 = .ok (.areturn, 1) := by decide +kernel
theorem dX3_init_0 : decode cX3_init 0 = .ok (.aload_n 0, 1) := by decide +kernel
theorem dX3_init_1 : decode cX3_init 1 = .ok (.invokespecial 3, 3) := by decide +kernel
theorem dX3_init_4 : decode cX3_init 4 = .ok (.aload_n 0, 1) := by decide +kernel
theorem dX3_init_5 : decode cX3_init 5 = .ok (.bipush 60, 2) := by decide +kernel
theorem dX3_init_7 : decode cX3_init 7 = .ok (.newarray .char, 2) := by decide +kernel
theorem dX3_init_9 : decode cX3_init 9 = .ok (.putfield 9, 3) := by decide +kernel
theorem dX3_init_12 : decode cX3_init 12 = .ok (.return_, 1) := by decide +kernel
theorem dX3_length_0 : decode cX3_length 0 = .ok (.aload_n 0, 1) := by decide +kernel
theorem dX3_length_1 : decode cX3_length 1 = .ok (.getfield 15, 3) := by decide +kernel
theorem dX3_length_4 : decode cX3_length 4 = .ok (.ireturn, 1) := by decide +kernel
theorem dX3_faultPlace_0 : decode cX3_faultPlace 0 = .ok (.aload_n 0, 1) := by decide +kernel
theorem dX3_faultPlace_1 : decode cX3_faultPlace 1 = .ok (.getfield 19, 3) := by decide +kernel
theorem dX3_faultPlace_4 : decode cX3_faultPlace 4 = .ok (.ireturn, 1) := by decide +kernel
theorem dX3_faultReason_0 : decode cX3_faultReason 0 = .ok (.aload_n 0, 1) := by decide +kernel
theorem dX3_faultReason_1 : decode cX3_faultReason 1 = .ok (.getfield 22, 3) := by decide +kernel
theorem dX3_faultReason_4 : decode cX3_faultReason 4 = .ok (.ireturn, 1) := by decide +kernel
theorem dX3_append_0 : decode cX3_append 0 = .ok (.iload_n 1, 1) := by decide +kernel
theorem dX3_append_1 : decode cX3_append 1 = .ok (.bipush 32, 2) := by decide +kernel
theorem dX3_append_3 : decode cX3_append 3 = .ok (.if_icmp .lt 9, 3) := by decide +kernel
theorem dX3_append_6 : decode cX3_append 6 = .ok (.iload_n 1, 1) := by decide +kernel
theorem dX3_append_7 : decode cX3_append 7 = .ok (.bipush 126, 2) := by decide +kernel
theorem dX3_append_9 : decode cX3_append 9 = .ok (.if_icmp .le 6, 3) := by decide +kernel
theorem dX3_append_12 : decode cX3_append 12 = .ok (.ldc 25, 2) := by decide +kernel
theorem dX3_append_14 : decode cX3_append 14 = .ok (.ireturn, 1) := by decide +kernel
theorem dX3_append_15 : decode cX3_append 15 = .ok (.aload_n 0, 1) := by decide +kernel
theorem dX3_append_16 : decode cX3_append 16 = .ok (.getfield 15, 3) := by decide +kernel
theorem dX3_append_19 : decode cX3_append 19 = .ok (.bipush 60, 2) := by decide +kernel
theorem dX3_append_21 : decode cX3_append 21 = .ok (.if_icmp .lt 6, 3) := by decide +kernel
theorem dX3_append_24 : decode cX3_append 24 = .ok (.ldc 26, 2) := by decide +kernel
theorem dX3_append_26 : decode cX3_append 26 = .ok (.ireturn, 1) := by decide +kernel
theorem dX3_append_27 : decode cX3_append 27 = .ok (.aload_n 0, 1) := by decide +kernel
theorem dX3_append_28 : decode cX3_append 28 = .ok (.getfield 9, 3) := by decide +kernel
theorem dX3_append_31 : decode cX3_append 31 = .ok (.aload_n 0, 1) := by decide +kernel
theorem dX3_append_32 : decode cX3_append 32 = .ok (.getfield 15, 3) := by decide +kernel
theorem dX3_append_35 : decode cX3_append 35 = .ok (.iload_n 1, 1) := by decide +kernel
theorem dX3_append_36 : decode cX3_append 36 = .ok (.i2c, 1) := by decide +kernel
theorem dX3_append_37 : decode cX3_append 37 = .ok (.castore, 1) := by decide +kernel
theorem dX3_append_38 : decode cX3_append 38 = .ok (.aload_n 0, 1) := by decide +kernel
theorem dX3_append_39 : decode cX3_append 39 = .ok (.dup, 1) := by decide +kernel
theorem dX3_append_40 : decode cX3_append 40 = .ok (.getfield 15, 3) := by decide +kernel
theorem dX3_append_43 : decode cX3_append 43 = .ok (.iconst 1, 1) := by decide +kernel
theorem dX3_append_44 : decode cX3_append 44 = .ok (.iadd, 1) := by decide +kernel
theorem dX3_append_45 : decode cX3_append 45 = .ok (.putfield 15, 3) := by decide +kernel
theorem dX3_append_48 : decode cX3_append 48 = .ok (.aload_n 0, 1) := by decide +kernel
theorem dX3_append_49 : decode cX3_append 49 = .ok (.getfield 15, 3) := by decide +kernel
theorem dX3_append_52 : decode cX3_append 52 = .ok (.ireturn, 1) := by decide +kernel
theorem dX3_empty_0 : decode cX3_empty 0 = .ok (.aload_n 0, 1) := by decide +kernel
theorem dX3_empty_1 : decode cX3_empty 1 = .ok (.getfield 15, 3) := by decide +kernel
theorem dX3_empty_4 : decode cX3_empty 4 = .ok (.istore_n 1, 1) := by decide +kernel
theorem dX3_empty_5 : decode cX3_empty 5 = .ok (.aload_n 0, 1) := by decide +kernel
theorem dX3_empty_6 : decode cX3_empty 6 = .ok (.iconst 0, 1) := by decide +kernel
theorem dX3_empty_7 : decode cX3_empty 7 = .ok (.putfield 15, 3) := by decide +kernel
theorem dX3_empty_10 : decode cX3_empty 10 = .ok (.iload_n 1, 1) := by decide +kernel
theorem dX3_empty_11 : decode cX3_empty 11 = .ok (.ireturn, 1) := by decide +kernel
set_option maxRecDepth 20000 in
theorem ggX3_doOrdersOn_X3_readOrder : GoodIn wsX3_doOrdersOn wsX3_readOrder := goodIn_r _ [9, 10, 1, 11, 12, 13, 14, 15, 8, 16, 3, 17, 18, 19, 20, 21, 22, 23, 24, 25, 227, 228, 229, 230, 231, 232, 233, 234] (by decide +kernel) (by decide +kernel)
set_option maxRecDepth 20000 in
theorem gX3_doOrdersOn_X3_readOrder : GoodIn wsX3_doOrdersOn (wsV RX3 30 RX3 yX3_readOrder wsX3_readOrder) := goodIn_app (goodIn_of _ (by decide +kernel)) ggX3_doOrdersOn_X3_readOrder
set_option maxRecDepth 20000 in
theorem ggX3_doOrdersOn_X3_doOrder : GoodIn wsX3_doOrdersOn wsX3_doOrder := goodIn_r _ [29, 10, 11, 12, 30, 31, 32, 33, 34, 35, 36, 37, 38, 39, 40, 41, 42, 43, 44, 45, 46, 47, 48, 49, 50, 51, 52, 53, 54, 55, 56, 57, 58, 59, 60, 61, 62, 63, 64, 65, 66, 67, 68, 69, 70, 71, 72, 73, 74, 75, 76, 77, 78, 79, 80, 81, 82, 83, 84, 85, 86, 87, 88, 89, 90, 91, 92, 93, 94, 95, 96, 97, 98, 99, 100, 101, 102, 103, 104, 105, 106, 107, 108, 109, 110, 111, 112, 113, 114, 115, 116, 117, 118, 119, 120, 121, 122, 123, 124, 125, 126, 127, 128, 129, 130, 131, 132, 133, 134, 135, 136, 137, 138, 139, 140, 141, 142, 143, 144, 145, 146, 147, 148, 149, 150, 151, 152, 153, 154, 155, 156, 157, 158, 159, 160, 161, 162, 163, 164, 165, 166, 167, 168, 169, 170, 171, 172, 173, 174, 175, 176, 177, 178, 179, 180, 181, 182, 183, 184, 185, 186, 187, 188, 189, 190, 191, 192, 193, 194, 195, 196, 197, 198, 199, 200, 201, 202, 203, 204, 205, 206, 207, 208, 209, 210, 211, 212, 213, 214, 215, 216, 217, 218, 219, 220, 221, 227, 228, 229, 230, 231, 232, 233, 234, 235, 236, 237, 238, 239, 240, 241, 242, 243, 244, 245, 246, 247, 248, 249, 250, 251, 252, 253, 254, 255, 256, 257, 258, 259, 260, 261, 262] (by decide +kernel) (by decide +kernel)
set_option maxRecDepth 20000 in
theorem gX3_doOrdersOn_X3_doOrder : GoodIn wsX3_doOrdersOn (wsV RX3 34 RX3 yX3_doOrder wsX3_doOrder) := goodIn_app (goodIn_of _ (by decide +kernel)) ggX3_doOrdersOn_X3_doOrder
set_option maxRecDepth 20000 in
theorem ggX3_doOrdersOn_X3_reasonOf : GoodIn wsX3_doOrdersOn wsX3_reasonOf := goodIn_r _ [225, 226, 115, 116, 117] (by decide +kernel) (by decide +kernel)
set_option maxRecDepth 20000 in
theorem gX3_doOrdersOn_X3_reasonOf : GoodIn wsX3_doOrdersOn (wsV RX3 38 RX3 yX3_reasonOf wsX3_reasonOf) := goodIn_app (goodIn_of _ (by decide +kernel)) ggX3_doOrdersOn_X3_reasonOf
theorem dX3_doOrdersOn_0 : decode cX3_doOrdersOn 0 = .ok (.aload_n 0, 1) := by decide +kernel
theorem dX3_doOrdersOn_1 : decode cX3_doOrdersOn 1 = .ok (.iconst 0, 1) := by decide +kernel
theorem dX3_doOrdersOn_2 : decode cX3_doOrdersOn 2 = .ok (.putfield 27, 3) := by decide +kernel
theorem dX3_doOrdersOn_5 : decode cX3_doOrdersOn 5 = .ok (.aload_n 0, 1) := by decide +kernel
theorem dX3_doOrdersOn_6 : decode cX3_doOrdersOn 6 = .ok (.iconst 0, 1) := by decide +kernel
theorem dX3_doOrdersOn_7 : decode cX3_doOrdersOn 7 = .ok (.putfield 22, 3) := by decide +kernel
theorem dX3_doOrdersOn_10 : decode cX3_doOrdersOn 10 = .ok (.iconst 0, 1) := by decide +kernel
theorem dX3_doOrdersOn_11 : decode cX3_doOrdersOn 11 = .ok (.istore_n 2, 1) := by decide +kernel
theorem dX3_doOrdersOn_12 : decode cX3_doOrdersOn 12 = .ok (.iload_n 2, 1) := by decide +kernel
theorem dX3_doOrdersOn_13 : decode cX3_doOrdersOn 13 = .ok (.bipush 60, 2) := by decide +kernel
theorem dX3_doOrdersOn_15 : decode cX3_doOrdersOn 15 = .ok (.if_icmp .ge 59, 3) := by decide +kernel
theorem dX3_doOrdersOn_18 : decode cX3_doOrdersOn 18 = .ok (.aload_n 0, 1) := by decide +kernel
theorem dX3_doOrdersOn_19 : decode cX3_doOrdersOn 19 = .ok (.getfield 27, 3) := by decide +kernel
theorem dX3_doOrdersOn_22 : decode cX3_doOrdersOn 22 = .ok (.aload_n 0, 1) := by decide +kernel
theorem dX3_doOrdersOn_23 : decode cX3_doOrdersOn 23 = .ok (.getfield 15, 3) := by decide +kernel
theorem dX3_doOrdersOn_26 : decode cX3_doOrdersOn 26 = .ok (.if_icmp .ge 48, 3) := by decide +kernel
theorem dX3_doOrdersOn_29 : decode cX3_doOrdersOn 29 = .ok (.aload_n 0, 1) := by decide +kernel
theorem dX3_doOrdersOn_30 : decode cX3_doOrdersOn 30 = .ok (.getfield 22, 3) := by decide +kernel
theorem dX3_doOrdersOn_33 : decode cX3_doOrdersOn 33 = .ok (.ifCond .ne 41, 3) := by decide +kernel
theorem dX3_doOrdersOn_36 : decode cX3_doOrdersOn 36 = .ok (.aload_n 0, 1) := by decide +kernel
theorem dX3_doOrdersOn_37 : decode cX3_doOrdersOn 37 = .ok (.aload_n 0, 1) := by decide +kernel
theorem dX3_doOrdersOn_38 : decode cX3_doOrdersOn 38 = .ok (.getfield 27, 3) := by decide +kernel
theorem dX3_doOrdersOn_41 : decode cX3_doOrdersOn 41 = .ok (.putfield 19, 3) := by decide +kernel
theorem dX3_doOrdersOn_44 : decode cX3_doOrdersOn 44 = .ok (.aload_n 0, 1) := by decide +kernel
theorem dX3_doOrdersOn_45 : decode cX3_doOrdersOn 45 = .ok (.aload_n 0, 1) := by decide +kernel
theorem dX3_doOrdersOn_46 : decode cX3_doOrdersOn 46 = .ok (.invokevirtual 30, 3) := by decide +kernel
theorem dX3_doOrdersOn_49 : decode cX3_doOrdersOn 49 = .ok (.ifCond .eq 15, 3) := by decide +kernel
theorem dX3_doOrdersOn_52 : decode cX3_doOrdersOn 52 = .ok (.aload_n 0, 1) := by decide +kernel
theorem dX3_doOrdersOn_53 : decode cX3_doOrdersOn 53 = .ok (.aload_n 0, 1) := by decide +kernel
theorem dX3_doOrdersOn_54 : decode cX3_doOrdersOn 54 = .ok (.aload_n 1, 1) := by decide +kernel
theorem dX3_doOrdersOn_55 : decode cX3_doOrdersOn 55 = .ok (.invokevirtual 34, 3) := by decide +kernel
theorem dX3_doOrdersOn_58 : decode cX3_doOrdersOn 58 = .ok (.invokevirtual 38, 3) := by decide +kernel
theorem dX3_doOrdersOn_61 : decode cX3_doOrdersOn 61 = .ok (.goto 4, 3) := by decide +kernel
theorem dX3_doOrdersOn_64 : decode cX3_doOrdersOn 64 = .ok (.iconst 1, 1) := by decide +kernel
theorem dX3_doOrdersOn_65 : decode cX3_doOrdersOn 65 = .ok (.putfield 22, 3) := by decide +kernel
theorem dX3_doOrdersOn_68 : decode cX3_doOrdersOn 68 = .ok (.iinc 2 1, 3) := by decide +kernel
theorem dX3_doOrdersOn_71 : decode cX3_doOrdersOn 71 = .ok (.goto (-59), 3) := by decide +kernel
theorem dX3_doOrdersOn_74 : decode cX3_doOrdersOn 74 = .ok (.return_, 1) := by decide +kernel
set_option maxRecDepth 20000 in
theorem ggX3_reasonOf_X5_isError : GoodIn wsX3_reasonOf wsX5_isError := goodIn_r _ [4] (by decide +kernel) (by decide +kernel)
set_option maxRecDepth 20000 in
theorem gX3_reasonOf_X5_isError_n42 : GoodIn wsX3_reasonOf (wsX5_isError) := ggX3_reasonOf_X5_isError
theorem dX3_reasonOf_0 : decode cX3_reasonOf 0 = .ok (.iload_n 1, 1) := by decide +kernel
theorem dX3_reasonOf_1 : decode cX3_reasonOf 1 = .ok (.invokestatic 42, 3) := by decide +kernel
theorem dX3_reasonOf_4 : decode cX3_reasonOf 4 = .ok (.ifCond .ne 5, 3) := by decide +kernel
theorem dX3_reasonOf_7 : decode cX3_reasonOf 7 = .ok (.iconst 0, 1) := by decide +kernel
theorem dX3_reasonOf_8 : decode cX3_reasonOf 8 = .ok (.ireturn, 1) := by decide +kernel
theorem dX3_reasonOf_9 : decode cX3_reasonOf 9 = .ok (.iload_n 1, 1) := by decide +kernel
theorem dX3_reasonOf_10 : decode cX3_reasonOf 10 = .ok (.ldc 25, 2) := by decide +kernel
theorem dX3_reasonOf_12 : decode cX3_reasonOf 12 = .ok (.if_icmp .ne 7, 3) := by decide +kernel
theorem dX3_reasonOf_15 : decode cX3_reasonOf 15 = .ok (.iconst 2, 1) := by decide +kernel
theorem dX3_reasonOf_16 : decode cX3_reasonOf 16 = .ok (.goto 4, 3) := by decide +kernel
theorem dX3_reasonOf_19 : decode cX3_reasonOf 19 = .ok (.iconst 3, 1) := by decide +kernel
theorem dX3_reasonOf_20 : decode cX3_reasonOf 20 = .ok (.ireturn, 1) := by decide +kernel
set_option maxRecDepth 20000 in
theorem ggX3_doOrder_X0_giveOrder : GoodIn wsX3_doOrder wsX0_giveOrder := goodIn_r _ [8, 9, 10, 11, 12, 13, 14, 15, 16, 17, 18, 19, 20, 21, 22, 23, 24, 25, 26, 27, 28, 29, 30, 31, 32, 33, 34, 35, 36, 37, 38, 39, 40, 41, 42, 43, 44, 45, 46, 47, 204, 205, 206, 207, 208, 209, 210, 211, 212, 213, 214, 215, 216, 217, 218, 219, 220, 221, 222, 223, 224, 225, 226, 227, 228, 229, 230, 231] (by decide +kernel) (by decide +kernel)
set_option maxRecDepth 20000 in
theorem gX3_doOrder_X0_giveOrder : GoodIn wsX3_doOrder (wsV RX3 56 RX0 yX0_giveOrder wsX0_giveOrder) := goodIn_app (goodIn_of _ (by decide +kernel)) ggX3_doOrder_X0_giveOrder
set_option maxRecDepth 20000 in
theorem ggX3_doOrder_X0_changeInflow : GoodIn wsX3_doOrder wsX0_changeInflow := goodIn_r _ [51, 10, 52, 204, 205, 206, 207, 208, 209, 210, 211, 212, 213, 214, 215, 216, 217, 218, 219, 220, 221] (by decide +kernel) (by decide +kernel)
set_option maxRecDepth 20000 in
theorem gX3_doOrder_X0_changeInflow : GoodIn wsX3_doOrder (wsV RX3 62 RX0 yX0_changeInflow wsX0_changeInflow) := goodIn_app (goodIn_of _ (by decide +kernel)) ggX3_doOrder_X0_changeInflow
set_option maxRecDepth 20000 in
theorem ggX3_doOrder_X0_cancelOrder : GoodIn wsX3_doOrder wsX0_cancelOrder := goodIn_r _ [56, 9, 10, 13, 11, 14, 15, 16, 17, 18, 19, 26, 27, 28, 29, 30, 31, 32, 57, 58, 59, 60, 37, 33, 34, 35, 36, 204, 205, 206, 207, 208, 209, 210, 211, 212, 213, 214, 215, 216, 217, 218, 219, 220, 221, 222, 223, 224, 225, 226, 227, 228, 229, 230, 231] (by decide +kernel) (by decide +kernel)
set_option maxRecDepth 20000 in
theorem gX3_doOrder_X0_cancelOrder : GoodIn wsX3_doOrder (wsV RX3 65 RX0 yX0_cancelOrder wsX0_cancelOrder) := goodIn_app (goodIn_of _ (by decide +kernel)) ggX3_doOrder_X0_cancelOrder
set_option maxRecDepth 20000 in
theorem ggX3_doOrder_X0_addGate : GoodIn wsX3_doOrder wsX0_addGate := goodIn_r _ [64, 10, 9, 65, 66, 67, 68, 17, 69, 19, 70, 71, 72, 73, 24, 74, 75, 76, 77, 78, 79, 80, 81, 82, 204, 205, 206, 207, 208, 209, 210, 211, 212, 213, 214, 215, 216, 217, 218, 219, 220, 221, 222, 223, 224, 225, 226, 227] (by decide +kernel) (by decide +kernel)
set_option maxRecDepth 20000 in
theorem gX3_doOrder_X0_addGate : GoodIn wsX3_doOrder (wsV RX3 68 RX0 yX0_addGate wsX0_addGate) := goodIn_app (goodIn_of _ (by decide +kernel)) ggX3_doOrder_X0_addGate
set_option maxRecDepth 20000 in
theorem ggX3_doOrder_X0_refusalToPass : GoodIn wsX3_doOrder wsX0_refusalToPass := goodIn_r _ [86, 10, 87, 88, 65, 204, 205, 206, 207, 208, 209, 210, 211, 212, 213, 214, 215, 216, 217, 218, 219, 220, 221] (by decide +kernel) (by decide +kernel)
set_option maxRecDepth 20000 in
theorem gX3_doOrder_X0_refusalToPass : GoodIn wsX3_doOrder (wsV RX3 71 RX0 yX0_refusalToPass wsX0_refusalToPass) := goodIn_app (goodIn_of _ (by decide +kernel)) ggX3_doOrder_X0_refusalToPass
set_option maxRecDepth 20000 in
theorem ggX3_doOrder_X5_isError : GoodIn wsX3_doOrder wsX5_isError := goodIn_r _ [91] (by decide +kernel) (by decide +kernel)
set_option maxRecDepth 20000 in
theorem gX3_doOrder_X5_isError_n42 : GoodIn wsX3_doOrder (wsX5_isError) := ggX3_doOrder_X5_isError
set_option maxRecDepth 20000 in
theorem ggX3_doOrder_X0_letPass : GoodIn wsX3_doOrder wsX0_letPass := goodIn_r _ [95, 87, 96, 97, 98, 7, 99, 100, 101, 12, 102, 103, 104, 105, 106, 107, 108, 109, 110, 111, 112, 113, 114, 115, 116, 29, 117, 31, 42, 118, 119, 120, 121, 32, 37, 43, 27, 28, 30, 122, 34, 35, 36, 123, 124, 125, 126, 127, 128, 129, 130, 131, 9, 132, 13, 133, 134, 135, 17, 136, 19, 137, 138, 139, 75, 140, 141, 142, 143, 44, 45, 46, 47, 144, 145, 146, 147, 148, 149, 150, 151, 57, 58, 59, 60, 33, 152, 153, 154, 155, 156, 157, 158, 159, 160, 161, 162, 163, 164, 165, 166, 167, 168, 169, 170, 171, 172, 173, 174, 24, 175, 77, 25, 15, 16, 18, 176, 177, 178, 179, 52, 180, 181, 182, 183, 184, 185, 186, 187, 79, 80, 81, 82, 188, 189, 190, 191, 74, 192, 193, 194, 195, 76, 204, 205, 206, 207, 208, 209, 210, 211, 212, 213, 214, 215, 216, 217, 218, 219, 220, 221, 228, 229, 230, 231, 222, 223, 224, 225, 226, 227] (by decide +kernel) (by decide +kernel)
set_option maxRecDepth 20000 in
theorem gX3_doOrder_X0_letPass : GoodIn wsX3_doOrder (wsV RX3 74 RX0 yX0_letPass wsX0_letPass) := goodIn_app (goodIn_of _ (by decide +kernel)) ggX3_doOrder_X0_letPass
theorem dX3_doOrder_0 : decode cX3_doOrder 0 = .ok (.aload_n 0, 1) := by decide +kernel
theorem dX3_doOrder_1 : decode cX3_doOrder 1 = .ok (.getfield 46, 3) := by decide +kernel
theorem dX3_doOrder_4 : decode cX3_doOrder 4 = .ok (.lookupswitch 88 #[(105, 57), (111, 44), (119, 75), (120, 66)], 44) := by decide +kernel
theorem dX3_doOrder_48 : decode cX3_doOrder 48 = .ok (.aload_n 1, 1) := by decide +kernel
theorem dX3_doOrder_49 : decode cX3_doOrder 49 = .ok (.aload_n 0, 1) := by decide +kernel
theorem dX3_doOrder_50 : decode cX3_doOrder 50 = .ok (.getfield 50, 3) := by decide +kernel
theorem dX3_doOrder_53 : decode cX3_doOrder 53 = .ok (.aload_n 0, 1) := by decide +kernel
theorem dX3_doOrder_54 : decode cX3_doOrder 54 = .ok (.getfield 53, 3) := by decide +kernel
theorem dX3_doOrder_57 : decode cX3_doOrder 57 = .ok (.invokevirtual 56, 3) := by decide +kernel
theorem dX3_doOrder_60 : decode cX3_doOrder 60 = .ok (.ireturn, 1) := by decide +kernel
theorem dX3_doOrder_61 : decode cX3_doOrder 61 = .ok (.aload_n 1, 1) := by decide +kernel
theorem dX3_doOrder_62 : decode cX3_doOrder 62 = .ok (.aload_n 0, 1) := by decide +kernel
theorem dX3_doOrder_63 : decode cX3_doOrder 63 = .ok (.getfield 50, 3) := by decide +kernel
theorem dX3_doOrder_66 : decode cX3_doOrder 66 = .ok (.invokevirtual 62, 3) := by decide +kernel
theorem dX3_doOrder_69 : decode cX3_doOrder 69 = .ok (.ireturn, 1) := by decide +kernel
theorem dX3_doOrder_70 : decode cX3_doOrder 70 = .ok (.aload_n 1, 1) := by decide +kernel
theorem dX3_doOrder_71 : decode cX3_doOrder 71 = .ok (.aload_n 0, 1) := by decide +kernel
theorem dX3_doOrder_72 : decode cX3_doOrder 72 = .ok (.getfield 50, 3) := by decide +kernel
theorem dX3_doOrder_75 : decode cX3_doOrder 75 = .ok (.invokevirtual 65, 3) := by decide +kernel
theorem dX3_doOrder_78 : decode cX3_doOrder 78 = .ok (.ireturn, 1) := by decide +kernel
theorem dX3_doOrder_79 : decode cX3_doOrder 79 = .ok (.aload_n 1, 1) := by decide +kernel
theorem dX3_doOrder_80 : decode cX3_doOrder 80 = .ok (.aload_n 0, 1) := by decide +kernel
theorem dX3_doOrder_81 : decode cX3_doOrder 81 = .ok (.getfield 50, 3) := by decide +kernel
theorem dX3_doOrder_84 : decode cX3_doOrder 84 = .ok (.aload_n 0, 1) := by decide +kernel
theorem dX3_doOrder_85 : decode cX3_doOrder 85 = .ok (.getfield 53, 3) := by decide +kernel
theorem dX3_doOrder_88 : decode cX3_doOrder 88 = .ok (.invokevirtual 68, 3) := by decide +kernel
theorem dX3_doOrder_91 : decode cX3_doOrder 91 = .ok (.ireturn, 1) := by decide +kernel
theorem dX3_doOrder_92 : decode cX3_doOrder 92 = .ok (.aload_n 1, 1) := by decide +kernel
theorem dX3_doOrder_93 : decode cX3_doOrder 93 = .ok (.aload_n 0, 1) := by decide +kernel
theorem dX3_doOrder_94 : decode cX3_doOrder 94 = .ok (.getfield 50, 3) := by decide +kernel
theorem dX3_doOrder_97 : decode cX3_doOrder 97 = .ok (.invokevirtual 71, 3) := by decide +kernel
theorem dX3_doOrder_100 : decode cX3_doOrder 100 = .ok (.istore_n 2, 1) := by decide +kernel
theorem dX3_doOrder_101 : decode cX3_doOrder 101 = .ok (.iload_n 2, 1) := by decide +kernel
theorem dX3_doOrder_102 : decode cX3_doOrder 102 = .ok (.invokestatic 42, 3) := by decide +kernel
theorem dX3_doOrder_105 : decode cX3_doOrder 105 = .ok (.ifCond .ne 11, 3) := by decide +kernel
theorem dX3_doOrder_108 : decode cX3_doOrder 108 = .ok (.aload_n 1, 1) := by decide +kernel
theorem dX3_doOrder_109 : decode cX3_doOrder 109 = .ok (.aload_n 0, 1) := by decide +kernel
theorem dX3_doOrder_110 : decode cX3_doOrder 110 = .ok (.getfield 50, 3) := by decide +kernel
theorem dX3_doOrder_113 : decode cX3_doOrder 113 = .ok (.invokevirtual 74, 3) := by decide +kernel
theorem dX3_doOrder_116 : decode cX3_doOrder 116 = .ok (.iload_n 2, 1) := by decide +kernel
theorem dX3_doOrder_117 : decode cX3_doOrder 117 = .ok (.ireturn, 1) := by decide +kernel
set_option maxRecDepth 20000 in
theorem ggX3_readOrder_X3_sign : GoodIn wsX3_readOrder wsX3_sign := goodIn_r _ [9, 2, 10, 11, 20, 21, 22, 23, 24, 25, 26, 27] (by decide +kernel) (by decide +kernel)
set_option maxRecDepth 20000 in
theorem gX3_readOrder_X3_sign : GoodIn wsX3_readOrder (wsV RX3 78 RX3 yX3_sign wsX3_sign) := goodIn_app (goodIn_of _ (by decide +kernel)) ggX3_readOrder_X3_sign
set_option maxRecDepth 20000 in
theorem ggX3_readOrder_X3_readNumber : GoodIn wsX3_readOrder wsX3_readNumber := goodIn_r _ [15, 2, 5, 6, 7, 8, 9, 10, 11, 20, 21, 22, 23, 24, 25, 26, 27] (by decide +kernel) (by decide +kernel)
set_option maxRecDepth 20000 in
theorem gX3_readOrder_X3_readNumber : GoodIn wsX3_readOrder (wsV RX3 82 RX3 yX3_readNumber wsX3_readNumber) := goodIn_app (goodIn_of _ (by decide +kernel)) ggX3_readOrder_X3_readNumber
set_option maxRecDepth 20000 in
theorem ggX3_readOrder_X3_readSign : GoodIn wsX3_readOrder wsX3_readSign := goodIn_r _ [19, 2, 5, 6, 7, 8, 9, 10, 11, 20, 21, 22, 23, 24, 25, 26, 27] (by decide +kernel) (by decide +kernel)
set_option maxRecDepth 20000 in
theorem gX3_readOrder_X3_readSign : GoodIn wsX3_readOrder (wsV RX3 86 RX3 yX3_readSign wsX3_readSign) := goodIn_app (goodIn_of _ (by decide +kernel)) ggX3_readOrder_X3_readSign
theorem dX3_readOrder_0 : decode cX3_readOrder 0 = .ok (.aload_n 0, 1) := by decide +kernel
theorem dX3_readOrder_1 : decode cX3_readOrder 1 = .ok (.aload_n 0, 1) := by decide +kernel
theorem dX3_readOrder_2 : decode cX3_readOrder 2 = .ok (.invokevirtual 78, 3) := by decide +kernel
theorem dX3_readOrder_5 : decode cX3_readOrder 5 = .ok (.putfield 46, 3) := by decide +kernel
theorem dX3_readOrder_8 : decode cX3_readOrder 8 = .ok (.aload_n 0, 1) := by decide +kernel
theorem dX3_readOrder_9 : decode cX3_readOrder 9 = .ok (.dup, 1) := by decide +kernel
theorem dX3_readOrder_10 : decode cX3_readOrder 10 = .ok (.getfield 27, 3) := by decide +kernel
theorem dX3_readOrder_13 : decode cX3_readOrder 13 = .ok (.iconst 1, 1) := by decide +kernel
theorem dX3_readOrder_14 : decode cX3_readOrder 14 = .ok (.iadd, 1) := by decide +kernel
theorem dX3_readOrder_15 : decode cX3_readOrder 15 = .ok (.putfield 27, 3) := by decide +kernel
theorem dX3_readOrder_18 : decode cX3_readOrder 18 = .ok (.aload_n 0, 1) := by decide +kernel
theorem dX3_readOrder_19 : decode cX3_readOrder 19 = .ok (.getfield 46, 3) := by decide +kernel
theorem dX3_readOrder_22 : decode cX3_readOrder 22 = .ok (.bipush 111, 2) := by decide +kernel
theorem dX3_readOrder_24 : decode cX3_readOrder 24 = .ok (.if_icmp .eq 12, 3) := by decide +kernel
theorem dX3_readOrder_27 : decode cX3_readOrder 27 = .ok (.aload_n 0, 1) := by decide +kernel
theorem dX3_readOrder_28 : decode cX3_readOrder 28 = .ok (.getfield 46, 3) := by decide +kernel
theorem dX3_readOrder_31 : decode cX3_readOrder 31 = .ok (.bipush 119, 2) := by decide +kernel
theorem dX3_readOrder_33 : decode cX3_readOrder 33 = .ok (.if_icmp .ne 7, 3) := by decide +kernel
theorem dX3_readOrder_36 : decode cX3_readOrder 36 = .ok (.iconst 1, 1) := by decide +kernel
theorem dX3_readOrder_37 : decode cX3_readOrder 37 = .ok (.goto 4, 3) := by decide +kernel
theorem dX3_readOrder_40 : decode cX3_readOrder 40 = .ok (.iconst 0, 1) := by decide +kernel
theorem dX3_readOrder_41 : decode cX3_readOrder 41 = .ok (.istore_n 1, 1) := by decide +kernel
theorem dX3_readOrder_42 : decode cX3_readOrder 42 = .ok (.iload_n 1, 1) := by decide +kernel
theorem dX3_readOrder_43 : decode cX3_readOrder 43 = .ok (.ifCond .ne 32, 3) := by decide +kernel
theorem dX3_readOrder_46 : decode cX3_readOrder 46 = .ok (.aload_n 0, 1) := by decide +kernel
theorem dX3_readOrder_47 : decode cX3_readOrder 47 = .ok (.getfield 46, 3) := by decide +kernel
theorem dX3_readOrder_50 : decode cX3_readOrder 50 = .ok (.bipush 105, 2) := by decide +kernel
theorem dX3_readOrder_52 : decode cX3_readOrder 52 = .ok (.if_icmp .eq 23, 3) := by decide +kernel
theorem dX3_readOrder_55 : decode cX3_readOrder 55 = .ok (.aload_n 0, 1) := by decide +kernel
theorem dX3_readOrder_56 : decode cX3_readOrder 56 = .ok (.getfield 46, 3) := by decide +kernel
theorem dX3_readOrder_59 : decode cX3_readOrder 59 = .ok (.bipush 112, 2) := by decide +kernel
theorem dX3_readOrder_61 : decode cX3_readOrder 61 = .ok (.if_icmp .eq 14, 3) := by decide +kernel
theorem dX3_readOrder_64 : decode cX3_readOrder 64 = .ok (.aload_n 0, 1) := by decide +kernel
theorem dX3_readOrder_65 : decode cX3_readOrder 65 = .ok (.getfield 46, 3) := by decide +kernel
theorem dX3_readOrder_68 : decode cX3_readOrder 68 = .ok (.bipush 120, 2) := by decide +kernel
theorem dX3_readOrder_70 : decode cX3_readOrder 70 = .ok (.if_icmp .eq 5, 3) := by decide +kernel
theorem dX3_readOrder_73 : decode cX3_readOrder 73 = .ok (.iconst 0, 1) := by decide +kernel
theorem dX3_readOrder_74 : decode cX3_readOrder 74 = .ok (.ireturn, 1) := by decide +kernel
theorem dX3_readOrder_75 : decode cX3_readOrder 75 = .ok (.aload_n 0, 1) := by decide +kernel
theorem dX3_readOrder_76 : decode cX3_readOrder 76 = .ok (.aload_n 0, 1) := by decide +kernel
theorem dX3_readOrder_77 : decode cX3_readOrder 77 = .ok (.invokevirtual 82, 3) := by decide +kernel
theorem dX3_readOrder_80 : decode cX3_readOrder 80 = .ok (.putfield 50, 3) := by decide +kernel
theorem dX3_readOrder_83 : decode cX3_readOrder 83 = .ok (.aload_n 0, 1) := by decide +kernel
theorem dX3_readOrder_84 : decode cX3_readOrder 84 = .ok (.getfield 50, 3) := by decide +kernel
theorem dX3_readOrder_87 : decode cX3_readOrder 87 = .ok (.iconst (-1), 1) := by decide +kernel
theorem dX3_readOrder_88 : decode cX3_readOrder 88 = .ok (.if_icmp .ne 5, 3) := by decide +kernel
theorem dX3_readOrder_91 : decode cX3_readOrder 91 = .ok (.iconst 0, 1) := by decide +kernel
theorem dX3_readOrder_92 : decode cX3_readOrder 92 = .ok (.ireturn, 1) := by decide +kernel
theorem dX3_readOrder_93 : decode cX3_readOrder 93 = .ok (.iload_n 1, 1) := by decide +kernel
theorem dX3_readOrder_94 : decode cX3_readOrder 94 = .ok (.ifCond .eq 32, 3) := by decide +kernel
theorem dX3_readOrder_97 : decode cX3_readOrder 97 = .ok (.aload_n 0, 1) := by decide +kernel
theorem dX3_readOrder_98 : decode cX3_readOrder 98 = .ok (.bipush 44, 2) := by decide +kernel
theorem dX3_readOrder_100 : decode cX3_readOrder 100 = .ok (.invokevirtual 86, 3) := by decide +kernel
theorem dX3_readOrder_103 : decode cX3_readOrder 103 = .ok (.ifCond .ne 5, 3) := by decide +kernel
theorem dX3_readOrder_106 : decode cX3_readOrder 106 = .ok (.iconst 0, 1) := by decide +kernel
theorem dX3_readOrder_107 : decode cX3_readOrder 107 = .ok (.ireturn, 1) := by decide +kernel
theorem dX3_readOrder_108 : decode cX3_readOrder 108 = .ok (.aload_n 0, 1) := by decide +kernel
theorem dX3_readOrder_109 : decode cX3_readOrder 109 = .ok (.aload_n 0, 1) := by decide +kernel
theorem dX3_readOrder_110 : decode cX3_readOrder 110 = .ok (.invokevirtual 82, 3) := by decide +kernel
theorem dX3_readOrder_113 : decode cX3_readOrder 113 = .ok (.putfield 53, 3) := by decide +kernel
theorem dX3_readOrder_116 : decode cX3_readOrder 116 = .ok (.aload_n 0, 1) := by decide +kernel
theorem dX3_readOrder_117 : decode cX3_readOrder 117 = .ok (.getfield 53, 3) := by decide +kernel
theorem dX3_readOrder_120 : decode cX3_readOrder 120 = .ok (.iconst (-1), 1) := by decide +kernel
theorem dX3_readOrder_121 : decode cX3_readOrder 121 = .ok (.if_icmp .ne 5, 3) := by decide +kernel
theorem dX3_readOrder_124 : decode cX3_readOrder 124 = .ok (.iconst 0, 1) := by decide +kernel
theorem dX3_readOrder_125 : decode cX3_readOrder 125 = .ok (.ireturn, 1) := by decide +kernel
theorem dX3_readOrder_126 : decode cX3_readOrder 126 = .ok (.aload_n 0, 1) := by decide +kernel
theorem dX3_readOrder_127 : decode cX3_readOrder 127 = .ok (.bipush 59, 2) := by decide +kernel
theorem dX3_readOrder_129 : decode cX3_readOrder 129 = .ok (.invokevirtual 86, 3) := by decide +kernel
theorem dX3_readOrder_132 : decode cX3_readOrder 132 = .ok (.ireturn, 1) := by decide +kernel
set_option maxRecDepth 20000 in
theorem ggX3_readSign_X3_sign : GoodIn wsX3_readSign wsX3_sign := goodIn_r _ [6, 1, 7, 8, 9, 10, 11, 12, 13, 14, 15, 16] (by decide +kernel) (by decide +kernel)
set_option maxRecDepth 20000 in
theorem gX3_readSign_X3_sign : GoodIn wsX3_readSign (wsV RX3 78 RX3 yX3_sign wsX3_sign) := goodIn_app (goodIn_of _ (by decide +kernel)) ggX3_readSign_X3_sign
theorem dX3_readSign_0 : decode cX3_readSign 0 = .ok (.aload_n 0, 1) := by decide +kernel
theorem dX3_readSign_1 : decode cX3_readSign 1 = .ok (.invokevirtual 78, 3) := by decide +kernel
theorem dX3_readSign_4 : decode cX3_readSign 4 = .ok (.iload_n 1, 1) := by decide +kernel
theorem dX3_readSign_5 : decode cX3_readSign 5 = .ok (.if_icmp .ne 7, 3) := by decide +kernel
theorem dX3_readSign_8 : decode cX3_readSign 8 = .ok (.iconst 1, 1) := by decide +kernel
theorem dX3_readSign_9 : decode cX3_readSign 9 = .ok (.goto 4, 3) := by decide +kernel
theorem dX3_readSign_12 : decode cX3_readSign 12 = .ok (.iconst 0, 1) := by decide +kernel
theorem dX3_readSign_13 : decode cX3_readSign 13 = .ok (.istore_n 2, 1) := by decide +kernel
theorem dX3_readSign_14 : decode cX3_readSign 14 = .ok (.aload_n 0, 1) := by decide +kernel
theorem dX3_readSign_15 : decode cX3_readSign 15 = .ok (.dup, 1) := by decide +kernel
theorem dX3_readSign_16 : decode cX3_readSign 16 = .ok (.getfield 27, 3) := by decide +kernel
theorem dX3_readSign_19 : decode cX3_readSign 19 = .ok (.iconst 1, 1) := by decide +kernel
theorem dX3_readSign_20 : decode cX3_readSign 20 = .ok (.iadd, 1) := by decide +kernel
theorem dX3_readSign_21 : decode cX3_readSign 21 = .ok (.putfield 27, 3) := by decide +kernel
theorem dX3_readSign_24 : decode cX3_readSign 24 = .ok (.iload_n 2, 1) := by decide +kernel
theorem dX3_readSign_25 : decode cX3_readSign 25 = .ok (.ireturn, 1) := by decide +kernel
set_option maxRecDepth 20000 in
theorem ggX3_readNumber_X3_sign : GoodIn wsX3_readNumber wsX3_sign := goodIn_r _ [6, 1, 7, 8, 9, 10, 11, 12, 13, 14, 15, 16] (by decide +kernel) (by decide +kernel)
set_option maxRecDepth 20000 in
theorem gX3_readNumber_X3_sign : GoodIn wsX3_readNumber (wsV RX3 78 RX3 yX3_sign wsX3_sign) := goodIn_app (goodIn_of _ (by decide +kernel)) ggX3_readNumber_X3_sign
theorem dX3_readNumber_0 : decode cX3_readNumber 0 = .ok (.iconst 0, 1) := by decide +kernel
theorem dX3_readNumber_1 : decode cX3_readNumber 1 = .ok (.istore_n 1, 1) := by decide +kernel
theorem dX3_readNumber_2 : decode cX3_readNumber 2 = .ok (.iconst 0, 1) := by decide +kernel
theorem dX3_readNumber_3 : decode cX3_readNumber 3 = .ok (.istore_n 2, 1) := by decide +kernel
theorem dX3_readNumber_4 : decode cX3_readNumber 4 = .ok (.iload_n 2, 1) := by decide +kernel
theorem dX3_readNumber_5 : decode cX3_readNumber 5 = .ok (.iconst 3, 1) := by decide +kernel
theorem dX3_readNumber_6 : decode cX3_readNumber 6 = .ok (.if_icmp .ge 50, 3) := by decide +kernel
theorem dX3_readNumber_9 : decode cX3_readNumber 9 = .ok (.aload_n 0, 1) := by decide +kernel
theorem dX3_readNumber_10 : decode cX3_readNumber 10 = .ok (.invokevirtual 78, 3) := by decide +kernel
theorem dX3_readNumber_13 : decode cX3_readNumber 13 = .ok (.bipush 48, 2) := by decide +kernel
theorem dX3_readNumber_15 : decode cX3_readNumber 15 = .ok (.if_icmp .lt 41, 3) := by decide +kernel
theorem dX3_readNumber_18 : decode cX3_readNumber 18 = .ok (.aload_n 0, 1) := by decide +kernel
theorem dX3_readNumber_19 : decode cX3_readNumber 19 = .ok (.invokevirtual 78, 3) := by decide +kernel
theorem dX3_readNumber_22 : decode cX3_readNumber 22 = .ok (.bipush 57, 2) := by decide +kernel
theorem dX3_readNumber_24 : decode cX3_readNumber 24 = .ok (.if_icmp .gt 32, 3) := by decide +kernel
theorem dX3_readNumber_27 : decode cX3_readNumber 27 = .ok (.iload_n 1, 1) := by decide +kernel
theorem dX3_readNumber_28 : decode cX3_readNumber 28 = .ok (.bipush 10, 2) := by decide +kernel
theorem dX3_readNumber_30 : decode cX3_readNumber 30 = .ok (.imul, 1) := by decide +kernel
theorem dX3_readNumber_31 : decode cX3_readNumber 31 = .ok (.aload_n 0, 1) := by decide +kernel
theorem dX3_readNumber_32 : decode cX3_readNumber 32 = .ok (.invokevirtual 78, 3) := by decide +kernel
theorem dX3_readNumber_35 : decode cX3_readNumber 35 = .ok (.bipush 48, 2) := by decide +kernel
theorem dX3_readNumber_37 : decode cX3_readNumber 37 = .ok (.isub, 1) := by decide +kernel
theorem dX3_readNumber_38 : decode cX3_readNumber 38 = .ok (.iadd, 1) := by decide +kernel
theorem dX3_readNumber_39 : decode cX3_readNumber 39 = .ok (.istore_n 1, 1) := by decide +kernel
theorem dX3_readNumber_40 : decode cX3_readNumber 40 = .ok (.iinc 2 1, 3) := by decide +kernel
theorem dX3_readNumber_43 : decode cX3_readNumber 43 = .ok (.aload_n 0, 1) := by decide +kernel
theorem dX3_readNumber_44 : decode cX3_readNumber 44 = .ok (.dup, 1) := by decide +kernel
theorem dX3_readNumber_45 : decode cX3_readNumber 45 = .ok (.getfield 27, 3) := by decide +kernel
theorem dX3_readNumber_48 : decode cX3_readNumber 48 = .ok (.iconst 1, 1) := by decide +kernel
theorem dX3_readNumber_49 : decode cX3_readNumber 49 = .ok (.iadd, 1) := by decide +kernel
theorem dX3_readNumber_50 : decode cX3_readNumber 50 = .ok (.putfield 27, 3) := by decide +kernel
theorem dX3_readNumber_53 : decode cX3_readNumber 53 = .ok (.goto (-49), 3) := by decide +kernel
theorem dX3_readNumber_56 : decode cX3_readNumber 56 = .ok (.iload_n 2, 1) := by decide +kernel
theorem dX3_readNumber_57 : decode cX3_readNumber 57 = .ok (.ifCond .ne 7, 3) := by decide +kernel
theorem dX3_readNumber_60 : decode cX3_readNumber 60 = .ok (.iconst (-1), 1) := by decide +kernel
theorem dX3_readNumber_61 : decode cX3_readNumber 61 = .ok (.goto 4, 3) := by decide +kernel
theorem dX3_readNumber_64 : decode cX3_readNumber 64 = .ok (.iload_n 1, 1) := by decide +kernel
theorem dX3_readNumber_65 : decode cX3_readNumber 65 = .ok (.ireturn, 1) := by decide +kernel
theorem dX3_sign_0 : decode cX3_sign 0 = .ok (.aload_n 0, 1) := by decide +kernel
theorem dX3_sign_1 : decode cX3_sign 1 = .ok (.getfield 27, 3) := by decide +kernel
theorem dX3_sign_4 : decode cX3_sign 4 = .ok (.ifCond .lt 35, 3) := by decide +kernel
theorem dX3_sign_7 : decode cX3_sign 7 = .ok (.aload_n 0, 1) := by decide +kernel
theorem dX3_sign_8 : decode cX3_sign 8 = .ok (.getfield 27, 3) := by decide +kernel
theorem dX3_sign_11 : decode cX3_sign 11 = .ok (.aload_n 0, 1) := by decide +kernel
theorem dX3_sign_12 : decode cX3_sign 12 = .ok (.getfield 15, 3) := by decide +kernel
theorem dX3_sign_15 : decode cX3_sign 15 = .ok (.if_icmp .ge 24, 3) := by decide +kernel
theorem dX3_sign_18 : decode cX3_sign 18 = .ok (.aload_n 0, 1) := by decide +kernel
theorem dX3_sign_19 : decode cX3_sign 19 = .ok (.getfield 27, 3) := by decide +kernel
theorem dX3_sign_22 : decode cX3_sign 22 = .ok (.bipush 60, 2) := by decide +kernel
theorem dX3_sign_24 : decode cX3_sign 24 = .ok (.if_icmp .ge 15, 3) := by decide +kernel
theorem dX3_sign_27 : decode cX3_sign 27 = .ok (.aload_n 0, 1) := by decide +kernel
theorem dX3_sign_28 : decode cX3_sign 28 = .ok (.getfield 9, 3) := by decide +kernel
theorem dX3_sign_31 : decode cX3_sign 31 = .ok (.aload_n 0, 1) := by decide +kernel
theorem dX3_sign_32 : decode cX3_sign 32 = .ok (.getfield 27, 3) := by decide +kernel
theorem dX3_sign_35 : decode cX3_sign 35 = .ok (.caload, 1) := by decide +kernel
theorem dX3_sign_36 : decode cX3_sign 36 = .ok (.goto 4, 3) := by decide +kernel
theorem dX3_sign_39 : decode cX3_sign 39 = .ok (.iconst 0, 1) := by decide +kernel
theorem dX3_sign_40 : decode cX3_sign 40 = .ok (.ireturn, 1) := by decide +kernel
theorem dX4_init_0 : decode cX4_init 0 = .ok (.aload_n 0, 1) := by decide +kernel
theorem dX4_init_1 : decode cX4_init 1 = .ok (.invokespecial 3, 3) := by decide +kernel
theorem dX4_init_4 : decode cX4_init 4 = .ok (.aload_n 0, 1) := by decide +kernel
theorem dX4_init_5 : decode cX4_init 5 = .ok (.bipush 8, 2) := by decide +kernel
theorem dX4_init_7 : decode cX4_init 7 = .ok (.newarray .int, 2) := by decide +kernel
theorem dX4_init_9 : decode cX4_init 9 = .ok (.putfield 9, 3) := by decide +kernel
theorem dX4_init_12 : decode cX4_init 12 = .ok (.aload_n 0, 1) := by decide +kernel
theorem dX4_init_13 : decode cX4_init 13 = .ok (.bipush 8, 2) := by decide +kernel
theorem dX4_init_15 : decode cX4_init 15 = .ok (.newarray .int, 2) := by decide +kernel
theorem dX4_init_17 : decode cX4_init 17 = .ok (.putfield 15, 3) := by decide +kernel
theorem dX4_init_20 : decode cX4_init 20 = .ok (.aload_n 0, 1) := by decide +kernel
theorem dX4_init_21 : decode cX4_init 21 = .ok (.iload_n 1, 1) := by decide +kernel
theorem dX4_init_22 : decode cX4_init 22 = .ok (.bipush 8, 2) := by decide +kernel
theorem dX4_init_24 : decode cX4_init 24 = .ok (.invokestatic 18, 3) := by decide +kernel
theorem dX4_init_27 : decode cX4_init 27 = .ok (.putfield 24, 3) := by decide +kernel
theorem dX4_init_30 : decode cX4_init 30 = .ok (.return_, 1) := by decide +kernel
theorem dX4_copyFrom_0 : decode cX4_copyFrom 0 = .ok (.aload_n 0, 1) := by decide +kernel
theorem dX4_copyFrom_1 : decode cX4_copyFrom 1 = .ok (.aload_n 1, 1) := by decide +kernel
theorem dX4_copyFrom_2 : decode cX4_copyFrom 2 = .ok (.getfield 28, 3) := by decide +kernel
theorem dX4_copyFrom_5 : decode cX4_copyFrom 5 = .ok (.putfield 28, 3) := by decide +kernel
theorem dX4_copyFrom_8 : decode cX4_copyFrom 8 = .ok (.aload_n 1, 1) := by decide +kernel
theorem dX4_copyFrom_9 : decode cX4_copyFrom 9 = .ok (.getfield 9, 3) := by decide +kernel
theorem dX4_copyFrom_12 : decode cX4_copyFrom 12 = .ok (.iconst 0, 1) := by decide +kernel
theorem dX4_copyFrom_13 : decode cX4_copyFrom 13 = .ok (.aload_n 0, 1) := by decide +kernel
theorem dX4_copyFrom_14 : decode cX4_copyFrom 14 = .ok (.getfield 9, 3) := by decide +kernel
theorem dX4_copyFrom_17 : decode cX4_copyFrom 17 = .ok (.iconst 0, 1) := by decide +kernel
theorem dX4_copyFrom_18 : decode cX4_copyFrom 18 = .ok (.bipush 8, 2) := by decide +kernel
theorem dX4_copyFrom_20 : decode cX4_copyFrom 20 = .ok (.invokestatic 31, 3) := by decide +kernel
theorem dX4_copyFrom_23 : decode cX4_copyFrom 23 = .ok (.aload_n 1, 1) := by decide +kernel
theorem dX4_copyFrom_24 : decode cX4_copyFrom 24 = .ok (.getfield 15, 3) := by decide +kernel
theorem dX4_copyFrom_27 : decode cX4_copyFrom 27 = .ok (.iconst 0, 1) := by decide +kernel
theorem dX4_copyFrom_28 : decode cX4_copyFrom 28 = .ok (.aload_n 0, 1) := by decide +kernel
theorem dX4_copyFrom_29 : decode cX4_copyFrom 29 = .ok (.getfield 15, 3) := by decide +kernel
theorem dX4_copyFrom_32 : decode cX4_copyFrom 32 = .ok (.iconst 0, 1) := by decide +kernel
theorem dX4_copyFrom_33 : decode cX4_copyFrom 33 = .ok (.bipush 8, 2) := by decide +kernel
theorem dX4_copyFrom_35 : decode cX4_copyFrom 35 = .ok (.invokestatic 31, 3) := by decide +kernel
theorem dX4_copyFrom_38 : decode cX4_copyFrom 38 = .ok (.return_, 1) := by decide +kernel
theorem dX4_size_0 : decode cX4_size 0 = .ok (.aload_n 0, 1) := by decide +kernel
theorem dX4_size_1 : decode cX4_size 1 = .ok (.getfield 28, 3) := by decide +kernel
theorem dX4_size_4 : decode cX4_size 4 = .ok (.ireturn, 1) := by decide +kernel
theorem dX4_gateAt_0 : decode cX4_gateAt 0 = .ok (.iload_n 1, 1) := by decide +kernel
theorem dX4_gateAt_1 : decode cX4_gateAt 1 = .ok (.ifCond .lt 26, 3) := by decide +kernel
theorem dX4_gateAt_4 : decode cX4_gateAt 4 = .ok (.iload_n 1, 1) := by decide +kernel
theorem dX4_gateAt_5 : decode cX4_gateAt 5 = .ok (.aload_n 0, 1) := by decide +kernel
theorem dX4_gateAt_6 : decode cX4_gateAt 6 = .ok (.getfield 28, 3) := by decide +kernel
theorem dX4_gateAt_9 : decode cX4_gateAt 9 = .ok (.if_icmp .ge 18, 3) := by decide +kernel
theorem dX4_gateAt_12 : decode cX4_gateAt 12 = .ok (.iload_n 1, 1) := by decide +kernel
theorem dX4_gateAt_13 : decode cX4_gateAt 13 = .ok (.bipush 8, 2) := by decide +kernel
theorem dX4_gateAt_15 : decode cX4_gateAt 15 = .ok (.if_icmp .ge 12, 3) := by decide +kernel
theorem dX4_gateAt_18 : decode cX4_gateAt 18 = .ok (.aload_n 0, 1) := by decide +kernel
theorem dX4_gateAt_19 : decode cX4_gateAt 19 = .ok (.getfield 9, 3) := by decide +kernel
theorem dX4_gateAt_22 : decode cX4_gateAt 22 = .ok (.iload_n 1, 1) := by decide +kernel
theorem dX4_gateAt_23 : decode cX4_gateAt 23 = .ok (.iaload, 1) := by decide +kernel
theorem dX4_gateAt_24 : decode cX4_gateAt 24 = .ok (.goto 4, 3) := by decide +kernel
theorem dX4_gateAt_27 : decode cX4_gateAt 27 = .ok (.iconst (-1), 1) := by decide +kernel
theorem dX4_gateAt_28 : decode cX4_gateAt 28 = .ok (.ireturn, 1) := by decide +kernel
theorem dX4_openingAt_0 : decode cX4_openingAt 0 = .ok (.iload_n 1, 1) := by decide +kernel
theorem dX4_openingAt_1 : decode cX4_openingAt 1 = .ok (.ifCond .lt 26, 3) := by decide +kernel
theorem dX4_openingAt_4 : decode cX4_openingAt 4 = .ok (.iload_n 1, 1) := by decide +kernel
theorem dX4_openingAt_5 : decode cX4_openingAt 5 = .ok (.aload_n 0, 1) := by decide +kernel
theorem dX4_openingAt_6 : decode cX4_openingAt 6 = .ok (.getfield 28, 3) := by decide +kernel
theorem dX4_openingAt_9 : decode cX4_openingAt 9 = .ok (.if_icmp .ge 18, 3) := by decide +kernel
theorem dX4_openingAt_12 : decode cX4_openingAt 12 = .ok (.iload_n 1, 1) := by decide +kernel
theorem dX4_openingAt_13 : decode cX4_openingAt 13 = .ok (.bipush 8, 2) := by decide +kernel
theorem dX4_openingAt_15 : decode cX4_openingAt 15 = .ok (.if_icmp .ge 12, 3) := by decide +kernel
theorem dX4_openingAt_18 : decode cX4_openingAt 18 = .ok (.aload_n 0, 1) := by decide +kernel
theorem dX4_openingAt_19 : decode cX4_openingAt 19 = .ok (.getfield 15, 3) := by decide +kernel
theorem dX4_openingAt_22 : decode cX4_openingAt 22 = .ok (.iload_n 1, 1) := by decide +kernel
theorem dX4_openingAt_23 : decode cX4_openingAt 23 = .ok (.iaload, 1) := by decide +kernel
theorem dX4_openingAt_24 : decode cX4_openingAt 24 = .ok (.goto 4, 3) := by decide +kernel
theorem dX4_openingAt_27 : decode cX4_openingAt 27 = .ok (.iconst 0, 1) := by decide +kernel
theorem dX4_openingAt_28 : decode cX4_openingAt 28 = .ok (.ireturn, 1) := by decide +kernel
theorem dX4_indexOf_0 : decode cX4_indexOf 0 = .ok (.iconst 0, 1) := by decide +kernel
theorem dX4_indexOf_1 : decode cX4_indexOf 1 = .ok (.istore_n 2, 1) := by decide +kernel
theorem dX4_indexOf_2 : decode cX4_indexOf 2 = .ok (.iload_n 2, 1) := by decide +kernel
theorem dX4_indexOf_3 : decode cX4_indexOf 3 = .ok (.aload_n 0, 1) := by decide +kernel
theorem dX4_indexOf_4 : decode cX4_indexOf 4 = .ok (.getfield 28, 3) := by decide +kernel
theorem dX4_indexOf_7 : decode cX4_indexOf 7 = .ok (.if_icmp .ge 27, 3) := by decide +kernel
theorem dX4_indexOf_10 : decode cX4_indexOf 10 = .ok (.iload_n 2, 1) := by decide +kernel
theorem dX4_indexOf_11 : decode cX4_indexOf 11 = .ok (.bipush 8, 2) := by decide +kernel
theorem dX4_indexOf_13 : decode cX4_indexOf 13 = .ok (.if_icmp .ge 21, 3) := by decide +kernel
theorem dX4_indexOf_16 : decode cX4_indexOf 16 = .ok (.aload_n 0, 1) := by decide +kernel
theorem dX4_indexOf_17 : decode cX4_indexOf 17 = .ok (.getfield 9, 3) := by decide +kernel
theorem dX4_indexOf_20 : decode cX4_indexOf 20 = .ok (.iload_n 2, 1) := by decide +kernel
theorem dX4_indexOf_21 : decode cX4_indexOf 21 = .ok (.iaload, 1) := by decide +kernel
theorem dX4_indexOf_22 : decode cX4_indexOf 22 = .ok (.iload_n 1, 1) := by decide +kernel
theorem dX4_indexOf_23 : decode cX4_indexOf 23 = .ok (.if_icmp .ne 5, 3) := by decide +kernel
theorem dX4_indexOf_26 : decode cX4_indexOf 26 = .ok (.iload_n 2, 1) := by decide +kernel
theorem dX4_indexOf_27 : decode cX4_indexOf 27 = .ok (.ireturn, 1) := by decide +kernel
theorem dX4_indexOf_28 : decode cX4_indexOf 28 = .ok (.iinc 2 1, 3) := by decide +kernel
theorem dX4_indexOf_31 : decode cX4_indexOf 31 = .ok (.goto (-29), 3) := by decide +kernel
theorem dX4_indexOf_34 : decode cX4_indexOf 34 = .ok (.iconst (-1), 1) := by decide +kernel
theorem dX4_indexOf_35 : decode cX4_indexOf 35 = .ok (.ireturn, 1) := by decide +kernel
set_option maxRecDepth 20000 in
theorem ggX4_put_X4_indexOf : GoodIn wsX4_put wsX4_indexOf := goodIn_r _ [9, 1, 3, 10, 11, 12, 13] (by decide +kernel) (by decide +kernel)
set_option maxRecDepth 20000 in
theorem gX4_put_X4_indexOf : GoodIn wsX4_put (wsV RX4 37 RX4 yX4_indexOf wsX4_indexOf) := goodIn_app (goodIn_of _ (by decide +kernel)) ggX4_put_X4_indexOf
theorem dX4_put_0 : decode cX4_put 0 = .ok (.aload_n 0, 1) := by decide +kernel
theorem dX4_put_1 : decode cX4_put 1 = .ok (.iload_n 1, 1) := by decide +kernel
theorem dX4_put_2 : decode cX4_put 2 = .ok (.invokevirtual 37, 3) := by decide +kernel
theorem dX4_put_5 : decode cX4_put 5 = .ok (.istore_n 3, 1) := by decide +kernel
theorem dX4_put_6 : decode cX4_put 6 = .ok (.iload_n 3, 1) := by decide +kernel
theorem dX4_put_7 : decode cX4_put 7 = .ok (.iconst (-1), 1) := by decide +kernel
theorem dX4_put_8 : decode cX4_put 8 = .ok (.if_icmp .ne 29, 3) := by decide +kernel
theorem dX4_put_11 : decode cX4_put 11 = .ok (.aload_n 0, 1) := by decide +kernel
theorem dX4_put_12 : decode cX4_put 12 = .ok (.getfield 28, 3) := by decide +kernel
theorem dX4_put_15 : decode cX4_put 15 = .ok (.aload_n 0, 1) := by decide +kernel
theorem dX4_put_16 : decode cX4_put 16 = .ok (.getfield 24, 3) := by decide +kernel
theorem dX4_put_19 : decode cX4_put 19 = .ok (.if_icmp .ge 18, 3) := by decide +kernel
theorem dX4_put_22 : decode cX4_put 22 = .ok (.aload_n 0, 1) := by decide +kernel
theorem dX4_put_23 : decode cX4_put 23 = .ok (.getfield 28, 3) := by decide +kernel
theorem dX4_put_26 : decode cX4_put 26 = .ok (.istore_n 3, 1) := by decide +kernel
theorem dX4_put_27 : decode cX4_put 27 = .ok (.aload_n 0, 1) := by decide +kernel
theorem dX4_put_28 : decode cX4_put 28 = .ok (.dup, 1) := by decide +kernel
theorem dX4_put_29 : decode cX4_put 29 = .ok (.getfield 28, 3) := by decide +kernel
theorem dX4_put_32 : decode cX4_put 32 = .ok (.iconst 1, 1) := by decide +kernel
theorem dX4_put_33 : decode cX4_put 33 = .ok (.iadd, 1) := by decide +kernel
theorem dX4_put_34 : decode cX4_put 34 = .ok (.putfield 28, 3) := by decide +kernel
theorem dX4_put_37 : decode cX4_put 37 = .ok (.iload_n 3, 1) := by decide +kernel
theorem dX4_put_38 : decode cX4_put 38 = .ok (.ifCond .lt 23, 3) := by decide +kernel
theorem dX4_put_41 : decode cX4_put 41 = .ok (.iload_n 3, 1) := by decide +kernel
theorem dX4_put_42 : decode cX4_put 42 = .ok (.bipush 8, 2) := by decide +kernel
theorem dX4_put_44 : decode cX4_put 44 = .ok (.if_icmp .ge 17, 3) := by decide +kernel
theorem dX4_put_47 : decode cX4_put 47 = .ok (.aload_n 0, 1) := by decide +kernel
theorem dX4_put_48 : decode cX4_put 48 = .ok (.getfield 9, 3) := by decide +kernel
theorem dX4_put_51 : decode cX4_put 51 = .ok (.iload_n 3, 1) := by decide +kernel
theorem dX4_put_52 : decode cX4_put 52 = .ok (.iload_n 1, 1) := by decide +kernel
theorem dX4_put_53 : decode cX4_put 53 = .ok (.iastore, 1) := by decide +kernel
theorem dX4_put_54 : decode cX4_put 54 = .ok (.aload_n 0, 1) := by decide +kernel
theorem dX4_put_55 : decode cX4_put 55 = .ok (.getfield 15, 3) := by decide +kernel
theorem dX4_put_58 : decode cX4_put 58 = .ok (.iload_n 3, 1) := by decide +kernel
theorem dX4_put_59 : decode cX4_put 59 = .ok (.iload_n 2, 1) := by decide +kernel
theorem dX4_put_60 : decode cX4_put 60 = .ok (.iastore, 1) := by decide +kernel
theorem dX4_put_61 : decode cX4_put 61 = .ok (.return_, 1) := by decide +kernel
set_option maxRecDepth 20000 in
theorem ggX4_putFirst_X4_indexOf : GoodIn wsX4_putFirst wsX4_indexOf := goodIn_r _ [13, 1, 7, 18, 19, 20, 21] (by decide +kernel) (by decide +kernel)
set_option maxRecDepth 20000 in
theorem gX4_putFirst_X4_indexOf : GoodIn wsX4_putFirst (wsV RX4 37 RX4 yX4_indexOf wsX4_indexOf) := goodIn_app (goodIn_of _ (by decide +kernel)) ggX4_putFirst_X4_indexOf
set_option maxRecDepth 20000 in
theorem ggX4_putFirst_X4_removeAt : GoodIn wsX4_putFirst wsX4_removeAt := goodIn_r _ [17, 1, 7, 8, 18, 19, 20, 21] (by decide +kernel) (by decide +kernel)
set_option maxRecDepth 20000 in
theorem gX4_putFirst_X4_removeAt : GoodIn wsX4_putFirst (wsV RX4 41 RX4 yX4_removeAt wsX4_removeAt) := goodIn_app (goodIn_of _ (by decide +kernel)) ggX4_putFirst_X4_removeAt
theorem dX4_putFirst_0 : decode cX4_putFirst 0 = .ok (.aload_n 0, 1) := by decide +kernel
theorem dX4_putFirst_1 : decode cX4_putFirst 1 = .ok (.aload_n 0, 1) := by decide +kernel
theorem dX4_putFirst_2 : decode cX4_putFirst 2 = .ok (.iload_n 1, 1) := by decide +kernel
theorem dX4_putFirst_3 : decode cX4_putFirst 3 = .ok (.invokevirtual 37, 3) := by decide +kernel
theorem dX4_putFirst_6 : decode cX4_putFirst 6 = .ok (.invokevirtual 41, 3) := by decide +kernel
theorem dX4_putFirst_9 : decode cX4_putFirst 9 = .ok (.aload_n 0, 1) := by decide +kernel
theorem dX4_putFirst_10 : decode cX4_putFirst 10 = .ok (.getfield 28, 3) := by decide +kernel
theorem dX4_putFirst_13 : decode cX4_putFirst 13 = .ok (.aload_n 0, 1) := by decide +kernel
theorem dX4_putFirst_14 : decode cX4_putFirst 14 = .ok (.getfield 24, 3) := by decide +kernel
theorem dX4_putFirst_17 : decode cX4_putFirst 17 = .ok (.if_icmp .lt 13, 3) := by decide +kernel
theorem dX4_putFirst_20 : decode cX4_putFirst 20 = .ok (.aload_n 0, 1) := by decide +kernel
theorem dX4_putFirst_21 : decode cX4_putFirst 21 = .ok (.aload_n 0, 1) := by decide +kernel
theorem dX4_putFirst_22 : decode cX4_putFirst 22 = .ok (.getfield 28, 3) := by decide +kernel
theorem dX4_putFirst_25 : decode cX4_putFirst 25 = .ok (.iconst 1, 1) := by decide +kernel
theorem dX4_putFirst_26 : decode cX4_putFirst 26 = .ok (.isub, 1) := by decide +kernel
theorem dX4_putFirst_27 : decode cX4_putFirst 27 = .ok (.invokevirtual 41, 3) := by decide +kernel
theorem dX4_putFirst_30 : decode cX4_putFirst 30 = .ok (.aload_n 0, 1) := by decide +kernel
theorem dX4_putFirst_31 : decode cX4_putFirst 31 = .ok (.getfield 28, 3) := by decide +kernel
theorem dX4_putFirst_34 : decode cX4_putFirst 34 = .ok (.bipush 7, 2) := by decide +kernel
theorem dX4_putFirst_36 : decode cX4_putFirst 36 = .ok (.invokestatic 18, 3) := by decide +kernel
theorem dX4_putFirst_39 : decode cX4_putFirst 39 = .ok (.istore_n 3, 1) := by decide +kernel
theorem dX4_putFirst_40 : decode cX4_putFirst 40 = .ok (.iload_n 3, 1) := by decide +kernel
theorem dX4_putFirst_41 : decode cX4_putFirst 41 = .ok (.ifCond .le 37, 3) := by decide +kernel
theorem dX4_putFirst_44 : decode cX4_putFirst 44 = .ok (.aload_n 0, 1) := by decide +kernel
theorem dX4_putFirst_45 : decode cX4_putFirst 45 = .ok (.getfield 9, 3) := by decide +kernel
theorem dX4_putFirst_48 : decode cX4_putFirst 48 = .ok (.iload_n 3, 1) := by decide +kernel
theorem dX4_putFirst_49 : decode cX4_putFirst 49 = .ok (.aload_n 0, 1) := by decide +kernel
theorem dX4_putFirst_50 : decode cX4_putFirst 50 = .ok (.getfield 9, 3) := by decide +kernel
theorem dX4_putFirst_53 : decode cX4_putFirst 53 = .ok (.iload_n 3, 1) := by decide +kernel
theorem dX4_putFirst_54 : decode cX4_putFirst 54 = .ok (.iconst 1, 1) := by decide +kernel
theorem dX4_putFirst_55 : decode cX4_putFirst 55 = .ok (.isub, 1) := by decide +kernel
theorem dX4_putFirst_56 : decode cX4_putFirst 56 = .ok (.iaload, 1) := by decide +kernel
theorem dX4_putFirst_57 : decode cX4_putFirst 57 = .ok (.iastore, 1) := by decide +kernel
theorem dX4_putFirst_58 : decode cX4_putFirst 58 = .ok (.aload_n 0, 1) := by decide +kernel
theorem dX4_putFirst_59 : decode cX4_putFirst 59 = .ok (.getfield 15, 3) := by decide +kernel
theorem dX4_putFirst_62 : decode cX4_putFirst 62 = .ok (.iload_n 3, 1) := by decide +kernel
theorem dX4_putFirst_63 : decode cX4_putFirst 63 = .ok (.aload_n 0, 1) := by decide +kernel
theorem dX4_putFirst_64 : decode cX4_putFirst 64 = .ok (.getfield 15, 3) := by decide +kernel
theorem dX4_putFirst_67 : decode cX4_putFirst 67 = .ok (.iload_n 3, 1) := by decide +kernel
theorem dX4_putFirst_68 : decode cX4_putFirst 68 = .ok (.iconst 1, 1) := by decide +kernel
theorem dX4_putFirst_69 : decode cX4_putFirst 69 = .ok (.isub, 1) := by decide +kernel
theorem dX4_putFirst_70 : decode cX4_putFirst 70 = .ok (.iaload, 1) := by decide +kernel
theorem dX4_putFirst_71 : decode cX4_putFirst 71 = .ok (.iastore, 1) := by decide +kernel
theorem dX4_putFirst_72 : decode cX4_putFirst 72 = .ok (.iinc 3 (-1), 3) := by decide +kernel
theorem dX4_putFirst_75 : decode cX4_putFirst 75 = .ok (.goto (-35), 3) := by decide +kernel
theorem dX4_putFirst_78 : decode cX4_putFirst 78 = .ok (.aload_n 0, 1) := by decide +kernel
theorem dX4_putFirst_79 : decode cX4_putFirst 79 = .ok (.getfield 9, 3) := by decide +kernel
theorem dX4_putFirst_82 : decode cX4_putFirst 82 = .ok (.iconst 0, 1) := by decide +kernel
theorem dX4_putFirst_83 : decode cX4_putFirst 83 = .ok (.iload_n 1, 1) := by decide +kernel
theorem dX4_putFirst_84 : decode cX4_putFirst 84 = .ok (.iastore, 1) := by decide +kernel
theorem dX4_putFirst_85 : decode cX4_putFirst 85 = .ok (.aload_n 0, 1) := by decide +kernel
theorem dX4_putFirst_86 : decode cX4_putFirst 86 = .ok (.getfield 15, 3) := by decide +kernel
theorem dX4_putFirst_89 : decode cX4_putFirst 89 = .ok (.iconst 0, 1) := by decide +kernel
theorem dX4_putFirst_90 : decode cX4_putFirst 90 = .ok (.iload_n 2, 1) := by decide +kernel
theorem dX4_putFirst_91 : decode cX4_putFirst 91 = .ok (.iastore, 1) := by decide +kernel
theorem dX4_putFirst_92 : decode cX4_putFirst 92 = .ok (.aload_n 0, 1) := by decide +kernel
theorem dX4_putFirst_93 : decode cX4_putFirst 93 = .ok (.dup, 1) := by decide +kernel
theorem dX4_putFirst_94 : decode cX4_putFirst 94 = .ok (.getfield 28, 3) := by decide +kernel
theorem dX4_putFirst_97 : decode cX4_putFirst 97 = .ok (.iconst 1, 1) := by decide +kernel
theorem dX4_putFirst_98 : decode cX4_putFirst 98 = .ok (.iadd, 1) := by decide +kernel
theorem dX4_putFirst_99 : decode cX4_putFirst 99 = .ok (.putfield 28, 3) := by decide +kernel
theorem dX4_putFirst_102 : decode cX4_putFirst 102 = .ok (.return_, 1) := by decide +kernel
theorem dX4_removeAt_0 : decode cX4_removeAt 0 = .ok (.iload_n 1, 1) := by decide +kernel
theorem dX4_removeAt_1 : decode cX4_removeAt 1 = .ok (.ifCond .lt 11, 3) := by decide +kernel
theorem dX4_removeAt_4 : decode cX4_removeAt 4 = .ok (.iload_n 1, 1) := by decide +kernel
theorem dX4_removeAt_5 : decode cX4_removeAt 5 = .ok (.aload_n 0, 1) := by decide +kernel
theorem dX4_removeAt_6 : decode cX4_removeAt 6 = .ok (.getfield 28, 3) := by decide +kernel
theorem dX4_removeAt_9 : decode cX4_removeAt 9 = .ok (.if_icmp .lt 4, 3) := by decide +kernel
theorem dX4_removeAt_12 : decode cX4_removeAt 12 = .ok (.return_, 1) := by decide +kernel
theorem dX4_removeAt_13 : decode cX4_removeAt 13 = .ok (.iload_n 1, 1) := by decide +kernel
theorem dX4_removeAt_14 : decode cX4_removeAt 14 = .ok (.istore_n 2, 1) := by decide +kernel
theorem dX4_removeAt_15 : decode cX4_removeAt 15 = .ok (.iload_n 2, 1) := by decide +kernel
theorem dX4_removeAt_16 : decode cX4_removeAt 16 = .ok (.aload_n 0, 1) := by decide +kernel
theorem dX4_removeAt_17 : decode cX4_removeAt 17 = .ok (.getfield 28, 3) := by decide +kernel
theorem dX4_removeAt_20 : decode cX4_removeAt 20 = .ok (.iconst 1, 1) := by decide +kernel
theorem dX4_removeAt_21 : decode cX4_removeAt 21 = .ok (.isub, 1) := by decide +kernel
theorem dX4_removeAt_22 : decode cX4_removeAt 22 = .ok (.if_icmp .ge 43, 3) := by decide +kernel
theorem dX4_removeAt_25 : decode cX4_removeAt 25 = .ok (.iload_n 2, 1) := by decide +kernel
theorem dX4_removeAt_26 : decode cX4_removeAt 26 = .ok (.bipush 7, 2) := by decide +kernel
theorem dX4_removeAt_28 : decode cX4_removeAt 28 = .ok (.if_icmp .ge 37, 3) := by decide +kernel
theorem dX4_removeAt_31 : decode cX4_removeAt 31 = .ok (.aload_n 0, 1) := by decide +kernel
theorem dX4_removeAt_32 : decode cX4_removeAt 32 = .ok (.getfield 9, 3) := by decide +kernel
theorem dX4_removeAt_35 : decode cX4_removeAt 35 = .ok (.iload_n 2, 1) := by decide +kernel
theorem dX4_removeAt_36 : decode cX4_removeAt 36 = .ok (.aload_n 0, 1) := by decide +kernel
theorem dX4_removeAt_37 : decode cX4_removeAt 37 = .ok (.getfield 9, 3) := by decide +kernel
theorem dX4_removeAt_40 : decode cX4_removeAt 40 = .ok (.iload_n 2, 1) := by decide +kernel
theorem dX4_removeAt_41 : decode cX4_removeAt 41 = .ok (.iconst 1, 1) := by decide +kernel
theorem dX4_removeAt_42 : decode cX4_removeAt 42 = .ok (.iadd, 1) := by decide +kernel
theorem dX4_removeAt_43 : decode cX4_removeAt 43 = .ok (.iaload, 1) := by decide +kernel
theorem dX4_removeAt_44 : decode cX4_removeAt 44 = .ok (.iastore, 1) := by decide +kernel
theorem dX4_removeAt_45 : decode cX4_removeAt 45 = .ok (.aload_n 0, 1) := by decide +kernel
theorem dX4_removeAt_46 : decode cX4_removeAt 46 = .ok (.getfield 15, 3) := by decide +kernel
theorem dX4_removeAt_49 : decode cX4_removeAt 49 = .ok (.iload_n 2, 1) := by decide +kernel
theorem dX4_removeAt_50 : decode cX4_removeAt 50 = .ok (.aload_n 0, 1) := by decide +kernel
theorem dX4_removeAt_51 : decode cX4_removeAt 51 = .ok (.getfield 15, 3) := by decide +kernel
theorem dX4_removeAt_54 : decode cX4_removeAt 54 = .ok (.iload_n 2, 1) := by decide +kernel
theorem dX4_removeAt_55 : decode cX4_removeAt 55 = .ok (.iconst 1, 1) := by decide +kernel
theorem dX4_removeAt_56 : decode cX4_removeAt 56 = .ok (.iadd, 1) := by decide +kernel
theorem dX4_removeAt_57 : decode cX4_removeAt 57 = .ok (.iaload, 1) := by decide +kernel
theorem dX4_removeAt_58 : decode cX4_removeAt 58 = .ok (.iastore, 1) := by decide +kernel
theorem dX4_removeAt_59 : decode cX4_removeAt 59 = .ok (.iinc 2 1, 3) := by decide +kernel
theorem dX4_removeAt_62 : decode cX4_removeAt 62 = .ok (.goto (-47), 3) := by decide +kernel
theorem dX4_removeAt_65 : decode cX4_removeAt 65 = .ok (.aload_n 0, 1) := by decide +kernel
theorem dX4_removeAt_66 : decode cX4_removeAt 66 = .ok (.dup, 1) := by decide +kernel
theorem dX4_removeAt_67 : decode cX4_removeAt 67 = .ok (.getfield 28, 3) := by decide +kernel
theorem dX4_removeAt_70 : decode cX4_removeAt 70 = .ok (.iconst 1, 1) := by decide +kernel
theorem dX4_removeAt_71 : decode cX4_removeAt 71 = .ok (.isub, 1) := by decide +kernel
theorem dX4_removeAt_72 : decode cX4_removeAt 72 = .ok (.putfield 28, 3) := by decide +kernel
theorem dX4_removeAt_75 : decode cX4_removeAt 75 = .ok (.return_, 1) := by decide +kernel
theorem dJ9_abs_0f7a4_0 : decode cJ9_abs_0f7a4 0 = .ok (.iload_n 0, 1) := by decide +kernel
theorem dJ9_abs_0f7a4_1 : decode cJ9_abs_0f7a4 1 = .ok (.ifCond .ge 8, 3) := by decide +kernel
theorem dJ9_abs_0f7a4_4 : decode cJ9_abs_0f7a4 4 = .ok (.iload_n 0, 1) := by decide +kernel
theorem dJ9_abs_0f7a4_5 : decode cJ9_abs_0f7a4 5 = .ok (.ineg, 1) := by decide +kernel
theorem dJ9_abs_0f7a4_6 : decode cJ9_abs_0f7a4 6 = .ok (.goto 4, 3) := by decide +kernel
theorem dJ9_abs_0f7a4_9 : decode cJ9_abs_0f7a4 9 = .ok (.iload_n 0, 1) := by decide +kernel
theorem dJ9_abs_0f7a4_10 : decode cJ9_abs_0f7a4 10 = .ok (.ireturn, 1) := by decide +kernel
theorem dJ9_min_7cf53_0 : decode cJ9_min_7cf53 0 = .ok (.iload_n 0, 1) := by decide +kernel
theorem dJ9_min_7cf53_1 : decode cJ9_min_7cf53 1 = .ok (.iload_n 1, 1) := by decide +kernel
theorem dJ9_min_7cf53_2 : decode cJ9_min_7cf53 2 = .ok (.if_icmp .gt 7, 3) := by decide +kernel
theorem dJ9_min_7cf53_5 : decode cJ9_min_7cf53 5 = .ok (.iload_n 0, 1) := by decide +kernel
theorem dJ9_min_7cf53_6 : decode cJ9_min_7cf53 6 = .ok (.goto 4, 3) := by decide +kernel
theorem dJ9_min_7cf53_9 : decode cJ9_min_7cf53 9 = .ok (.iload_n 1, 1) := by decide +kernel
theorem dJ9_min_7cf53_10 : decode cJ9_min_7cf53 10 = .ok (.ireturn, 1) := by decide +kernel
