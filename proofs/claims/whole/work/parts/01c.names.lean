set_option maxRecDepth 20000 in
theorem ggX5_init_X0_init : GoodIn wsX5_init wsX0_init := goodIn_r _ [18, 19, 2, 3, 20, 21, 22, 23, 24, 25, 26, 27, 28, 29, 30, 31, 32, 33, 34, 35, 36, 37, 38, 39, 40, 41, 42, 43, 44, 45, 46, 47, 48, 49, 50, 93, 94, 95, 96, 97, 98, 61, 62, 63, 64, 65, 66, 67, 68, 69, 70, 71, 72, 73, 74, 75, 76, 77, 78, 99, 100, 101, 102] (by decide +kernel) (by decide +kernel)
set_option maxRecDepth 20000 in
theorem gX5_init_X0_init_n9 : GoodIn wsX5_init (wsX0_init) := ggX5_init_X0_init
set_option maxRecDepth 20000 in
theorem ggX5_init_X2_init : GoodIn wsX5_init wsX2_init := goodIn_r _ [52, 53, 2, 3, 54, 55, 5, 6, 17, 18, 19, 20, 21, 22, 23, 24, 25, 26, 27, 28, 29, 30, 31, 32, 33, 34, 35, 36, 37, 38, 39, 40, 41, 42, 43, 44, 45, 46, 47, 48, 49, 50, 83, 84, 61, 62, 63, 64, 65, 66, 67, 68, 69, 70, 71, 72, 73, 74, 75, 76, 77, 78, 93, 94, 95, 96, 97, 98, 99, 100, 101, 102] (by decide +kernel) (by decide +kernel)
set_option maxRecDepth 20000 in
theorem gX5_init_X2_init_n21 : GoodIn wsX5_init (wsX2_init) := ggX5_init_X2_init
set_option maxRecDepth 20000 in
theorem ggX5_init_X3_init : GoodIn wsX5_init wsX3_init := goodIn_r _ [57, 58, 2, 3, 59, 60, 85, 86, 87, 88, 89, 90, 91, 92] (by decide +kernel) (by decide +kernel)
set_option maxRecDepth 20000 in
theorem gX5_init_X3_init_n28 : GoodIn wsX5_init (wsX3_init) := ggX5_init_X3_init
theorem dX5_init_0 : decode cX5_init 0 = .ok (.aload_n 0, 1) := by decide +kernel
theorem dX5_init_1 : decode cX5_init 1 = .ok (.invokespecial 1, 3) := by decide +kernel
theorem dX5_init_4 : decode cX5_init 4 = .ok (.aload_n 0, 1) := by decide +kernel
theorem dX5_init_5 : decode cX5_init 5 = .ok (.new 7, 3) := by decide +kernel
theorem dX5_init_8 : decode cX5_init 8 = .ok (.dup, 1) := by decide +kernel
theorem dX5_init_9 : decode cX5_init 9 = .ok (.invokespecial 9, 3) := by decide +kernel
theorem dX5_init_12 : decode cX5_init 12 = .ok (.putfield 10, 3) := by decide +kernel
theorem dX5_init_15 : decode cX5_init 15 = .ok (.aload_n 0, 1) := by decide +kernel
theorem dX5_init_16 : decode cX5_init 16 = .ok (.new 7, 3) := by decide +kernel
theorem dX5_init_19 : decode cX5_init 19 = .ok (.dup, 1) := by decide +kernel
theorem dX5_init_20 : decode cX5_init 20 = .ok (.invokespecial 9, 3) := by decide +kernel
theorem dX5_init_23 : decode cX5_init 23 = .ok (.putfield 16, 3) := by decide +kernel
theorem dX5_init_26 : decode cX5_init 26 = .ok (.aload_n 0, 1) := by decide +kernel
theorem dX5_init_27 : decode cX5_init 27 = .ok (.new 19, 3) := by decide +kernel
theorem dX5_init_30 : decode cX5_init 30 = .ok (.dup, 1) := by decide +kernel
theorem dX5_init_31 : decode cX5_init 31 = .ok (.invokespecial 21, 3) := by decide +kernel
theorem dX5_init_34 : decode cX5_init 34 = .ok (.putfield 22, 3) := by decide +kernel
theorem dX5_init_37 : decode cX5_init 37 = .ok (.aload_n 0, 1) := by decide +kernel
theorem dX5_init_38 : decode cX5_init 38 = .ok (.new 26, 3) := by decide +kernel
theorem dX5_init_41 : decode cX5_init 41 = .ok (.dup, 1) := by decide +kernel
theorem dX5_init_42 : decode cX5_init 42 = .ok (.invokespecial 28, 3) := by decide +kernel
theorem dX5_init_45 : decode cX5_init 45 = .ok (.putfield 29, 3) := by decide +kernel
theorem dX5_init_48 : decode cX5_init 48 = .ok (.return_, 1) := by decide +kernel
set_option maxRecDepth 20000 in
theorem ggX5_gate_X2_prepare : GoodIn wsX5_gate wsX2_prepare := goodIn_r _ [7, 8, 9, 10, 11, 6, 12, 13, 14, 15, 16, 17, 18, 19, 20, 21, 22, 23, 24, 25, 26, 27, 28, 29, 30, 31, 32, 33, 34, 35, 36, 37, 38, 39, 40, 41, 42, 43, 44, 45, 46, 47, 48, 49, 50, 51, 52, 53, 54, 55, 56, 57, 58, 59, 60, 61, 97, 98, 99, 100, 101, 102, 103, 104, 105, 106, 107, 108, 109, 110, 111, 112, 113, 114, 115, 116, 117, 118, 119, 120, 121, 122, 123, 124, 125, 126] (by decide +kernel) (by decide +kernel)
set_option maxRecDepth 20000 in
theorem gX5_gate_X2_prepare : GoodIn wsX5_gate (wsV RX5 33 RX2 yX2_prepare wsX2_prepare) := goodIn_app (goodIn_of _ (by decide +kernel)) ggX5_gate_X2_prepare
set_option maxRecDepth 20000 in
theorem ggX5_gate_X0_addGate : GoodIn wsX5_gate wsX0_addGate := goodIn_r _ [65, 66, 19, 67, 68, 69, 70, 44, 71, 46, 72, 73, 74, 75, 47, 49, 50, 51, 52, 76, 77, 78, 79, 80, 99, 100, 101, 102, 103, 104, 105, 106, 107, 108, 109, 110, 111, 112, 113, 114, 115, 116, 117, 118, 119, 120, 121, 122] (by decide +kernel) (by decide +kernel)
set_option maxRecDepth 20000 in
theorem gX5_gate_X0_addGate : GoodIn wsX5_gate (wsV RX5 37 RX0 yX0_addGate wsX0_addGate) := goodIn_app (goodIn_of _ (by decide +kernel)) ggX5_gate_X0_addGate
set_option maxRecDepth 20000 in
theorem ggX5_gate_X5_kept : GoodIn wsX5_gate wsX5_kept := goodIn_r _ [85, 1, 86, 87, 84, 88, 89, 90, 91, 6, 92, 8, 13, 93, 94, 95, 96, 97, 98] (by decide +kernel) (by decide +kernel)
set_option maxRecDepth 20000 in
theorem gX5_gate_X5_kept : GoodIn wsX5_gate (wsV RX5 41 RX5 yX5_kept wsX5_kept) := goodIn_app (goodIn_of _ (by decide +kernel)) ggX5_gate_X5_kept
theorem dX5_gate_0 : decode cX5_gate 0 = .ok (.aload_n 0, 1) := by decide +kernel
theorem dX5_gate_1 : decode cX5_gate 1 = .ok (.getfield 22, 3) := by decide +kernel
theorem dX5_gate_4 : decode cX5_gate 4 = .ok (.aload_n 0, 1) := by decide +kernel
theorem dX5_gate_5 : decode cX5_gate 5 = .ok (.getfield 10, 3) := by decide +kernel
theorem dX5_gate_8 : decode cX5_gate 8 = .ok (.invokevirtual 33, 3) := by decide +kernel
theorem dX5_gate_11 : decode cX5_gate 11 = .ok (.aload_n 0, 1) := by decide +kernel
theorem dX5_gate_12 : decode cX5_gate 12 = .ok (.aload_n 0, 1) := by decide +kernel
theorem dX5_gate_13 : decode cX5_gate 13 = .ok (.getfield 10, 3) := by decide +kernel
theorem dX5_gate_16 : decode cX5_gate 16 = .ok (.iload_n 1, 1) := by decide +kernel
theorem dX5_gate_17 : decode cX5_gate 17 = .ok (.iload_n 2, 1) := by decide +kernel
theorem dX5_gate_18 : decode cX5_gate 18 = .ok (.invokevirtual 37, 3) := by decide +kernel
theorem dX5_gate_21 : decode cX5_gate 21 = .ok (.invokevirtual 41, 3) := by decide +kernel
theorem dX5_gate_24 : decode cX5_gate 24 = .ok (.ireturn, 1) := by decide +kernel
set_option maxRecDepth 20000 in
theorem ggX5_order_X2_prepare : GoodIn wsX5_order wsX2_prepare := goodIn_r _ [7, 8, 9, 10, 11, 6, 12, 13, 14, 15, 16, 17, 18, 19, 20, 21, 22, 23, 24, 25, 26, 27, 28, 29, 30, 31, 32, 33, 34, 35, 36, 37, 38, 39, 40, 41, 42, 43, 44, 45, 46, 47, 48, 49, 50, 51, 52, 53, 54, 55, 56, 57, 58, 59, 60, 61, 111, 112, 113, 114, 115, 116, 117, 118, 119, 120, 121, 122, 123, 124, 125, 126, 127, 128, 129, 130, 131, 132, 133, 134, 135, 136, 137, 138, 139, 140] (by decide +kernel) (by decide +kernel)
set_option maxRecDepth 20000 in
theorem gX5_order_X2_prepare : GoodIn wsX5_order (wsV RX5 33 RX2 yX2_prepare wsX2_prepare) := goodIn_app (goodIn_of _ (by decide +kernel)) ggX5_order_X2_prepare
set_option maxRecDepth 20000 in
theorem ggX5_order_X0_giveOrder : GoodIn wsX5_order wsX0_giveOrder := goodIn_r _ [65, 19, 66, 67, 21, 20, 68, 69, 70, 44, 71, 46, 72, 73, 74, 75, 47, 76, 77, 78, 79, 56, 80, 58, 59, 81, 82, 83, 84, 61, 85, 86, 87, 88, 89, 90, 91, 92, 93, 94, 113, 114, 115, 116, 117, 118, 119, 120, 121, 122, 123, 124, 125, 126, 127, 128, 129, 130, 131, 132, 133, 134, 135, 136, 137, 138, 139, 140] (by decide +kernel) (by decide +kernel)
set_option maxRecDepth 20000 in
theorem gX5_order_X0_giveOrder : GoodIn wsX5_order (wsV RX5 45 RX0 yX0_giveOrder wsX0_giveOrder) := goodIn_app (goodIn_of _ (by decide +kernel)) ggX5_order_X0_giveOrder
set_option maxRecDepth 20000 in
theorem ggX5_order_X5_kept : GoodIn wsX5_order wsX5_kept := goodIn_r _ [99, 1, 100, 101, 98, 102, 103, 104, 105, 6, 106, 8, 13, 107, 108, 109, 110, 111, 112] (by decide +kernel) (by decide +kernel)
set_option maxRecDepth 20000 in
theorem gX5_order_X5_kept : GoodIn wsX5_order (wsV RX5 41 RX5 yX5_kept wsX5_kept) := goodIn_app (goodIn_of _ (by decide +kernel)) ggX5_order_X5_kept
theorem dX5_order_0 : decode cX5_order 0 = .ok (.aload_n 0, 1) := by decide +kernel
theorem dX5_order_1 : decode cX5_order 1 = .ok (.getfield 22, 3) := by decide +kernel
theorem dX5_order_4 : decode cX5_order 4 = .ok (.aload_n 0, 1) := by decide +kernel
theorem dX5_order_5 : decode cX5_order 5 = .ok (.getfield 10, 3) := by decide +kernel
theorem dX5_order_8 : decode cX5_order 8 = .ok (.invokevirtual 33, 3) := by decide +kernel
theorem dX5_order_11 : decode cX5_order 11 = .ok (.aload_n 0, 1) := by decide +kernel
theorem dX5_order_12 : decode cX5_order 12 = .ok (.aload_n 0, 1) := by decide +kernel
theorem dX5_order_13 : decode cX5_order 13 = .ok (.getfield 10, 3) := by decide +kernel
theorem dX5_order_16 : decode cX5_order 16 = .ok (.iload_n 1, 1) := by decide +kernel
theorem dX5_order_17 : decode cX5_order 17 = .ok (.iload_n 2, 1) := by decide +kernel
theorem dX5_order_18 : decode cX5_order 18 = .ok (.invokevirtual 45, 3) := by decide +kernel
theorem dX5_order_21 : decode cX5_order 21 = .ok (.invokevirtual 41, 3) := by decide +kernel
theorem dX5_order_24 : decode cX5_order 24 = .ok (.ireturn, 1) := by decide +kernel
set_option maxRecDepth 20000 in
theorem ggX5_cancel_X2_prepare : GoodIn wsX5_cancel wsX2_prepare := goodIn_r _ [7, 8, 9, 10, 11, 6, 12, 13, 14, 15, 16, 17, 18, 19, 20, 21, 22, 23, 24, 25, 26, 27, 28, 29, 30, 31, 32, 33, 34, 35, 36, 37, 38, 39, 40, 41, 42, 43, 44, 45, 46, 47, 48, 49, 50, 51, 52, 53, 54, 55, 56, 57, 58, 59, 60, 61, 100, 101, 102, 103, 104, 105, 106, 107, 108, 109, 110, 111, 112, 113, 114, 115, 116, 117, 118, 119, 120, 121, 122, 123, 124, 125, 126, 127, 128, 129] (by decide +kernel) (by decide +kernel)
set_option maxRecDepth 20000 in
theorem gX5_cancel_X2_prepare : GoodIn wsX5_cancel (wsV RX5 33 RX2 yX2_prepare wsX2_prepare) := goodIn_app (goodIn_of _ (by decide +kernel)) ggX5_cancel_X2_prepare
set_option maxRecDepth 20000 in
theorem ggX5_cancel_X0_cancelOrder : GoodIn wsX5_cancel wsX0_cancelOrder := goodIn_r _ [65, 19, 66, 20, 67, 68, 69, 70, 44, 71, 46, 72, 73, 74, 56, 75, 58, 59, 76, 77, 78, 79, 61, 80, 81, 82, 83, 102, 103, 104, 105, 106, 107, 108, 109, 110, 111, 112, 113, 114, 115, 116, 117, 118, 119, 120, 121, 122, 123, 124, 125, 126, 127, 128, 129] (by decide +kernel) (by decide +kernel)
set_option maxRecDepth 20000 in
theorem gX5_cancel_X0_cancelOrder : GoodIn wsX5_cancel (wsV RX5 48 RX0 yX0_cancelOrder wsX0_cancelOrder) := goodIn_app (goodIn_of _ (by decide +kernel)) ggX5_cancel_X0_cancelOrder
set_option maxRecDepth 20000 in
theorem ggX5_cancel_X5_kept : GoodIn wsX5_cancel wsX5_kept := goodIn_r _ [88, 1, 89, 90, 87, 91, 92, 93, 94, 6, 95, 8, 13, 96, 97, 98, 99, 100, 101] (by decide +kernel) (by decide +kernel)
set_option maxRecDepth 20000 in
theorem gX5_cancel_X5_kept : GoodIn wsX5_cancel (wsV RX5 41 RX5 yX5_kept wsX5_kept) := goodIn_app (goodIn_of _ (by decide +kernel)) ggX5_cancel_X5_kept
theorem dX5_cancel_0 : decode cX5_cancel 0 = .ok (.aload_n 0, 1) := by decide +kernel
theorem dX5_cancel_1 : decode cX5_cancel 1 = .ok (.getfield 22, 3) := by decide +kernel
theorem dX5_cancel_4 : decode cX5_cancel 4 = .ok (.aload_n 0, 1) := by decide +kernel
theorem dX5_cancel_5 : decode cX5_cancel 5 = .ok (.getfield 10, 3) := by decide +kernel
theorem dX5_cancel_8 : decode cX5_cancel 8 = .ok (.invokevirtual 33, 3) := by decide +kernel
theorem dX5_cancel_11 : decode cX5_cancel 11 = .ok (.aload_n 0, 1) := by decide +kernel
theorem dX5_cancel_12 : decode cX5_cancel 12 = .ok (.aload_n 0, 1) := by decide +kernel
theorem dX5_cancel_13 : decode cX5_cancel 13 = .ok (.getfield 10, 3) := by decide +kernel
theorem dX5_cancel_16 : decode cX5_cancel 16 = .ok (.iload_n 1, 1) := by decide +kernel
theorem dX5_cancel_17 : decode cX5_cancel 17 = .ok (.invokevirtual 48, 3) := by decide +kernel
theorem dX5_cancel_20 : decode cX5_cancel 20 = .ok (.invokevirtual 41, 3) := by decide +kernel
theorem dX5_cancel_23 : decode cX5_cancel 23 = .ok (.ireturn, 1) := by decide +kernel
set_option maxRecDepth 20000 in
theorem ggX5_inflow_X2_prepare : GoodIn wsX5_inflow wsX2_prepare := goodIn_r _ [7, 8, 9, 10, 11, 6, 12, 13, 14, 15, 16, 17, 18, 19, 20, 21, 22, 23, 24, 25, 26, 27, 28, 29, 30, 31, 32, 33, 34, 35, 36, 37, 38, 39, 40, 41, 42, 43, 44, 45, 46, 47, 48, 49, 50, 51, 52, 53, 54, 55, 56, 57, 58, 59, 60, 61, 83, 84, 85, 86, 87, 88, 89, 90, 91, 92, 93, 94, 95, 96, 97, 98, 99, 100, 101, 102, 103, 104, 105, 106, 107, 108, 109, 110, 111, 112] (by decide +kernel) (by decide +kernel)
set_option maxRecDepth 20000 in
theorem gX5_inflow_X2_prepare : GoodIn wsX5_inflow (wsV RX5 33 RX2 yX2_prepare wsX2_prepare) := goodIn_app (goodIn_of _ (by decide +kernel)) ggX5_inflow_X2_prepare
set_option maxRecDepth 20000 in
theorem ggX5_inflow_X0_changeInflow : GoodIn wsX5_inflow wsX0_changeInflow := goodIn_r _ [65, 66, 28, 85, 86, 87, 88, 89, 90, 91, 92, 93, 94, 95, 96, 97, 98, 99, 100, 101, 102] (by decide +kernel) (by decide +kernel)
set_option maxRecDepth 20000 in
theorem gX5_inflow_X0_changeInflow : GoodIn wsX5_inflow (wsV RX5 51 RX0 yX0_changeInflow wsX0_changeInflow) := goodIn_app (goodIn_of _ (by decide +kernel)) ggX5_inflow_X0_changeInflow
set_option maxRecDepth 20000 in
theorem ggX5_inflow_X5_kept : GoodIn wsX5_inflow wsX5_kept := goodIn_r _ [71, 1, 72, 73, 70, 74, 75, 76, 77, 6, 78, 8, 13, 79, 80, 81, 82, 83, 84] (by decide +kernel) (by decide +kernel)
set_option maxRecDepth 20000 in
theorem gX5_inflow_X5_kept : GoodIn wsX5_inflow (wsV RX5 41 RX5 yX5_kept wsX5_kept) := goodIn_app (goodIn_of _ (by decide +kernel)) ggX5_inflow_X5_kept
theorem dX5_inflow_0 : decode cX5_inflow 0 = .ok (.aload_n 0, 1) := by decide +kernel
theorem dX5_inflow_1 : decode cX5_inflow 1 = .ok (.getfield 22, 3) := by decide +kernel
theorem dX5_inflow_4 : decode cX5_inflow 4 = .ok (.aload_n 0, 1) := by decide +kernel
theorem dX5_inflow_5 : decode cX5_inflow 5 = .ok (.getfield 10, 3) := by decide +kernel
theorem dX5_inflow_8 : decode cX5_inflow 8 = .ok (.invokevirtual 33, 3) := by decide +kernel
theorem dX5_inflow_11 : decode cX5_inflow 11 = .ok (.aload_n 0, 1) := by decide +kernel
theorem dX5_inflow_12 : decode cX5_inflow 12 = .ok (.aload_n 0, 1) := by decide +kernel
theorem dX5_inflow_13 : decode cX5_inflow 13 = .ok (.getfield 10, 3) := by decide +kernel
theorem dX5_inflow_16 : decode cX5_inflow 16 = .ok (.iload_n 1, 1) := by decide +kernel
theorem dX5_inflow_17 : decode cX5_inflow 17 = .ok (.invokevirtual 51, 3) := by decide +kernel
theorem dX5_inflow_20 : decode cX5_inflow 20 = .ok (.invokevirtual 41, 3) := by decide +kernel
theorem dX5_inflow_23 : decode cX5_inflow 23 = .ok (.ireturn, 1) := by decide +kernel
set_option maxRecDepth 20000 in
theorem ggX5_fill_X2_prepare : GoodIn wsX5_fill wsX2_prepare := goodIn_r _ [7, 8, 9, 10, 11, 6, 12, 13, 14, 15, 16, 17, 18, 19, 20, 21, 22, 23, 24, 25, 26, 27, 28, 29, 30, 31, 32, 33, 34, 35, 36, 37, 38, 39, 40, 41, 42, 43, 44, 45, 46, 47, 48, 49, 50, 51, 52, 53, 54, 55, 56, 57, 58, 59, 60, 61, 83, 84, 85, 86, 87, 88, 89, 90, 91, 92, 93, 94, 95, 96, 97, 98, 99, 100, 101, 102, 103, 104, 105, 106, 107, 108, 109, 110, 111, 112] (by decide +kernel) (by decide +kernel)
set_option maxRecDepth 20000 in
theorem gX5_fill_X2_prepare : GoodIn wsX5_fill (wsV RX5 33 RX2 yX2_prepare wsX2_prepare) := goodIn_app (goodIn_of _ (by decide +kernel)) ggX5_fill_X2_prepare
set_option maxRecDepth 20000 in
theorem ggX5_fill_X0_changeWater : GoodIn wsX5_fill wsX0_changeWater := goodIn_r _ [65, 66, 27, 85, 86, 87, 88, 89, 90, 91, 92, 93, 94, 95, 96, 97, 98, 99, 100, 101, 102] (by decide +kernel) (by decide +kernel)
set_option maxRecDepth 20000 in
theorem gX5_fill_X0_changeWater : GoodIn wsX5_fill (wsV RX5 54 RX0 yX0_changeWater wsX0_changeWater) := goodIn_app (goodIn_of _ (by decide +kernel)) ggX5_fill_X0_changeWater
set_option maxRecDepth 20000 in
theorem ggX5_fill_X5_kept : GoodIn wsX5_fill wsX5_kept := goodIn_r _ [71, 1, 72, 73, 70, 74, 75, 76, 77, 6, 78, 8, 13, 79, 80, 81, 82, 83, 84] (by decide +kernel) (by decide +kernel)
set_option maxRecDepth 20000 in
theorem gX5_fill_X5_kept : GoodIn wsX5_fill (wsV RX5 41 RX5 yX5_kept wsX5_kept) := goodIn_app (goodIn_of _ (by decide +kernel)) ggX5_fill_X5_kept
theorem dX5_fill_0 : decode cX5_fill 0 = .ok (.aload_n 0, 1) := by decide +kernel
theorem dX5_fill_1 : decode cX5_fill 1 = .ok (.getfield 22, 3) := by decide +kernel
theorem dX5_fill_4 : decode cX5_fill 4 = .ok (.aload_n 0, 1) := by decide +kernel
theorem dX5_fill_5 : decode cX5_fill 5 = .ok (.getfield 10, 3) := by decide +kernel
theorem dX5_fill_8 : decode cX5_fill 8 = .ok (.invokevirtual 33, 3) := by decide +kernel
theorem dX5_fill_11 : decode cX5_fill 11 = .ok (.aload_n 0, 1) := by decide +kernel
theorem dX5_fill_12 : decode cX5_fill 12 = .ok (.aload_n 0, 1) := by decide +kernel
theorem dX5_fill_13 : decode cX5_fill 13 = .ok (.getfield 10, 3) := by decide +kernel
theorem dX5_fill_16 : decode cX5_fill 16 = .ok (.iload_n 1, 1) := by decide +kernel
theorem dX5_fill_17 : decode cX5_fill 17 = .ok (.invokevirtual 54, 3) := by decide +kernel
theorem dX5_fill_20 : decode cX5_fill 20 = .ok (.invokevirtual 41, 3) := by decide +kernel
theorem dX5_fill_23 : decode cX5_fill 23 = .ok (.ireturn, 1) := by decide +kernel
set_option maxRecDepth 20000 in
theorem ggX5_set_X2_prepare : GoodIn wsX5_set wsX2_prepare := goodIn_r _ [7, 8, 9, 10, 11, 6, 12, 13, 14, 15, 16, 17, 18, 19, 20, 21, 22, 23, 24, 25, 26, 27, 28, 29, 30, 31, 32, 33, 34, 35, 36, 37, 38, 39, 40, 41, 42, 43, 44, 45, 46, 47, 48, 49, 50, 51, 52, 53, 54, 55, 56, 57, 58, 59, 60, 61, 83, 84, 85, 86, 87, 88, 89, 90, 91, 92, 93, 94, 95, 96, 97, 98, 99, 100, 101, 102, 103, 104, 105, 106, 107, 108, 109, 110, 111, 112] (by decide +kernel) (by decide +kernel)
set_option maxRecDepth 20000 in
theorem gX5_set_X2_prepare : GoodIn wsX5_set (wsV RX5 33 RX2 yX2_prepare wsX2_prepare) := goodIn_app (goodIn_of _ (by decide +kernel)) ggX5_set_X2_prepare
set_option maxRecDepth 20000 in
theorem ggX5_set_X0_changeSetting : GoodIn wsX5_set wsX0_changeSetting := goodIn_r _ [65, 66, 22, 85, 86, 87, 88, 89, 90, 91, 92, 93, 94, 95, 96, 97, 98, 99, 100, 101, 102] (by decide +kernel) (by decide +kernel)
set_option maxRecDepth 20000 in
theorem gX5_set_X0_changeSetting : GoodIn wsX5_set (wsV RX5 57 RX0 yX0_changeSetting wsX0_changeSetting) := goodIn_app (goodIn_of _ (by decide +kernel)) ggX5_set_X0_changeSetting
set_option maxRecDepth 20000 in
theorem ggX5_set_X5_kept : GoodIn wsX5_set wsX5_kept := goodIn_r _ [71, 1, 72, 73, 70, 74, 75, 76, 77, 6, 78, 8, 13, 79, 80, 81, 82, 83, 84] (by decide +kernel) (by decide +kernel)
set_option maxRecDepth 20000 in
theorem gX5_set_X5_kept : GoodIn wsX5_set (wsV RX5 41 RX5 yX5_kept wsX5_kept) := goodIn_app (goodIn_of _ (by decide +kernel)) ggX5_set_X5_kept
theorem dX5_set_0 : decode cX5_set 0 = .ok (.aload_n 0, 1) := by decide +kernel
theorem dX5_set_1 : decode cX5_set 1 = .ok (.getfield 22, 3) := by decide +kernel
theorem dX5_set_4 : decode cX5_set 4 = .ok (.aload_n 0, 1) := by decide +kernel
theorem dX5_set_5 : decode cX5_set 5 = .ok (.getfield 10, 3) := by decide +kernel
theorem dX5_set_8 : decode cX5_set 8 = .ok (.invokevirtual 33, 3) := by decide +kernel
theorem dX5_set_11 : decode cX5_set 11 = .ok (.aload_n 0, 1) := by decide +kernel
theorem dX5_set_12 : decode cX5_set 12 = .ok (.aload_n 0, 1) := by decide +kernel
theorem dX5_set_13 : decode cX5_set 13 = .ok (.getfield 10, 3) := by decide +kernel
theorem dX5_set_16 : decode cX5_set 16 = .ok (.iload_n 1, 1) := by decide +kernel
theorem dX5_set_17 : decode cX5_set 17 = .ok (.iload_n 2, 1) := by decide +kernel
theorem dX5_set_18 : decode cX5_set 18 = .ok (.invokevirtual 57, 3) := by decide +kernel
theorem dX5_set_21 : decode cX5_set 21 = .ok (.invokevirtual 41, 3) := by decide +kernel
theorem dX5_set_24 : decode cX5_set 24 = .ok (.ireturn, 1) := by decide +kernel
set_option maxRecDepth 20000 in
theorem ggX5_pass_X0_refusalToPass : GoodIn wsX5_pass wsX0_refusalToPass := goodIn_r _ [7, 8, 9, 10, 11, 205, 206, 207, 208, 209, 210, 211, 212, 213, 214, 215, 216, 217, 218, 219, 220, 221, 222] (by decide +kernel) (by decide +kernel)
set_option maxRecDepth 20000 in
theorem gX5_pass_X0_refusalToPass : GoodIn wsX5_pass (wsV RX5 60 RX0 yX0_refusalToPass wsX0_refusalToPass) := goodIn_app (goodIn_of _ (by decide +kernel)) ggX5_pass_X0_refusalToPass
set_option maxRecDepth 20000 in
theorem ggX5_pass_X5_isError : GoodIn wsX5_pass wsX5_isError := goodIn_r _ [15] (by decide +kernel) (by decide +kernel)
set_option maxRecDepth 20000 in
theorem gX5_pass_X5_isError : GoodIn wsX5_pass (va_wsS RX5 63 yX5_isError wsX5_isError) := goodIn_app (goodIn_of _ (by decide +kernel)) ggX5_pass_X5_isError
set_option maxRecDepth 20000 in
theorem ggX5_pass_X2_prepare : GoodIn wsX5_pass wsX2_prepare := goodIn_r _ [20, 21, 22, 23, 24, 19, 25, 26, 27, 28, 29, 6, 30, 31, 32, 33, 34, 35, 36, 37, 38, 39, 40, 41, 42, 43, 9, 44, 45, 46, 47, 48, 49, 50, 51, 52, 53, 54, 55, 56, 57, 58, 59, 60, 61, 62, 63, 64, 65, 66, 67, 68, 69, 70, 71, 72, 223, 224, 205, 206, 207, 208, 209, 210, 211, 212, 213, 214, 215, 216, 217, 218, 219, 220, 221, 222, 225, 226, 227, 228, 229, 230, 231, 232, 233, 234] (by decide +kernel) (by decide +kernel)
set_option maxRecDepth 20000 in
theorem gX5_pass_X2_prepare : GoodIn wsX5_pass (wsV RX5 33 RX2 yX2_prepare wsX2_prepare) := goodIn_app (goodIn_of _ (by decide +kernel)) ggX5_pass_X2_prepare
set_option maxRecDepth 20000 in
theorem ggX5_pass_X0_letPass : GoodIn wsX5_pass wsX0_letPass := goodIn_r _ [76, 9, 77, 78, 79, 6, 80, 44, 45, 33, 47, 48, 39, 34, 81, 82, 83, 84, 85, 86, 87, 88, 89, 90, 91, 67, 92, 69, 93, 94, 95, 96, 97, 70, 72, 98, 99, 100, 101, 102, 103, 104, 105, 106, 107, 108, 109, 51, 110, 111, 112, 113, 31, 46, 32, 114, 115, 116, 55, 117, 57, 118, 119, 120, 61, 121, 122, 123, 124, 125, 126, 127, 128, 129, 130, 131, 132, 133, 134, 135, 136, 137, 138, 139, 140, 141, 142, 143, 144, 145, 146, 147, 148, 149, 150, 151, 152, 153, 154, 50, 155, 156, 157, 158, 49, 159, 160, 161, 162, 58, 163, 63, 164, 165, 166, 167, 168, 169, 170, 171, 40, 41, 172, 42, 43, 173, 174, 175, 176, 177, 178, 179, 180, 181, 182, 183, 184, 60, 185, 186, 187, 188, 62, 205, 206, 207, 208, 209, 210, 211, 212, 213, 214, 215, 216, 217, 218, 219, 220, 221, 222, 231, 232, 233, 234, 225, 226, 227, 228, 229, 230] (by decide +kernel) (by decide +kernel)
set_option maxRecDepth 20000 in
theorem gX5_pass_X0_letPass : GoodIn wsX5_pass (wsV RX5 67 RX0 yX0_letPass wsX0_letPass) := goodIn_app (goodIn_of _ (by decide +kernel)) ggX5_pass_X0_letPass
set_option maxRecDepth 20000 in
theorem ggX5_pass_X0_water : GoodIn wsX5_pass wsX0_water := goodIn_r _ [192, 39, 205, 206, 207, 208, 209, 210, 211, 212, 213, 214, 215, 216, 217, 218, 219, 220, 221, 222] (by decide +kernel) (by decide +kernel)
set_option maxRecDepth 20000 in
theorem gX5_pass_X0_water : GoodIn wsX5_pass (wsV RX5 71 RX0 yX0_water wsX0_water) := goodIn_app (goodIn_of _ (by decide +kernel)) ggX5_pass_X0_water
set_option maxRecDepth 20000 in
theorem ggX5_pass_X5_kept : GoodIn wsX5_pass wsX5_kept := goodIn_r _ [196, 2, 12, 13, 14, 15, 197, 198, 199, 19, 200, 21, 26, 201, 202, 203, 204, 223, 224] (by decide +kernel) (by decide +kernel)
set_option maxRecDepth 20000 in
theorem gX5_pass_X5_kept : GoodIn wsX5_pass (wsV RX5 41 RX5 yX5_kept wsX5_kept) := goodIn_app (goodIn_of _ (by decide +kernel)) ggX5_pass_X5_kept
theorem dX5_pass_0 : decode cX5_pass 0 = .ok (.aload_n 0, 1) := by decide +kernel
theorem dX5_pass_1 : decode cX5_pass 1 = .ok (.getfield 10, 3) := by decide +kernel
theorem dX5_pass_4 : decode cX5_pass 4 = .ok (.iload_n 1, 1) := by decide +kernel
theorem dX5_pass_5 : decode cX5_pass 5 = .ok (.invokevirtual 60, 3) := by decide +kernel
theorem dX5_pass_8 : decode cX5_pass 8 = .ok (.istore_n 2, 1) := by decide +kernel
theorem dX5_pass_9 : decode cX5_pass 9 = .ok (.iload_n 2, 1) := by decide +kernel
theorem dX5_pass_10 : decode cX5_pass 10 = .ok (.invokestatic 63, 3) := by decide +kernel
theorem dX5_pass_13 : decode cX5_pass 13 = .ok (.ifCond .eq 5, 3) := by decide +kernel
theorem dX5_pass_16 : decode cX5_pass 16 = .ok (.iload_n 2, 1) := by decide +kernel
theorem dX5_pass_17 : decode cX5_pass 17 = .ok (.ireturn, 1) := by decide +kernel
theorem dX5_pass_18 : decode cX5_pass 18 = .ok (.aload_n 0, 1) := by decide +kernel
theorem dX5_pass_19 : decode cX5_pass 19 = .ok (.getfield 22, 3) := by decide +kernel
theorem dX5_pass_22 : decode cX5_pass 22 = .ok (.aload_n 0, 1) := by decide +kernel
theorem dX5_pass_23 : decode cX5_pass 23 = .ok (.getfield 10, 3) := by decide +kernel
theorem dX5_pass_26 : decode cX5_pass 26 = .ok (.invokevirtual 33, 3) := by decide +kernel
theorem dX5_pass_29 : decode cX5_pass 29 = .ok (.aload_n 0, 1) := by decide +kernel
theorem dX5_pass_30 : decode cX5_pass 30 = .ok (.getfield 10, 3) := by decide +kernel
theorem dX5_pass_33 : decode cX5_pass 33 = .ok (.iload_n 1, 1) := by decide +kernel
theorem dX5_pass_34 : decode cX5_pass 34 = .ok (.invokevirtual 67, 3) := by decide +kernel
theorem dX5_pass_37 : decode cX5_pass 37 = .ok (.aload_n 0, 1) := by decide +kernel
theorem dX5_pass_38 : decode cX5_pass 38 = .ok (.aload_n 0, 1) := by decide +kernel
theorem dX5_pass_39 : decode cX5_pass 39 = .ok (.getfield 10, 3) := by decide +kernel
theorem dX5_pass_42 : decode cX5_pass 42 = .ok (.invokevirtual 71, 3) := by decide +kernel
theorem dX5_pass_45 : decode cX5_pass 45 = .ok (.invokevirtual 41, 3) := by decide +kernel
theorem dX5_pass_48 : decode cX5_pass 48 = .ok (.ireturn, 1) := by decide +kernel
set_option maxRecDepth 20000 in
theorem ggX5_gateOf_X0_ofGate : GoodIn wsX5_gateOf wsX0_ofGate := goodIn_r _ [6, 7, 8, 9, 10, 11, 12, 13, 14, 15, 16, 17, 18, 19, 20, 21, 22, 23, 24, 25, 26, 27, 28, 29, 30, 31, 32, 33, 34, 35, 5, 36, 37, 38, 39, 40, 41, 42, 43, 44, 45, 46, 47, 48, 49, 50, 51, 52, 53, 54, 55, 56, 57, 58, 59, 60, 61, 62, 63, 64, 65, 66, 67, 68, 73, 74, 75, 76, 77, 78, 79, 80, 81, 82, 83, 84, 85, 86, 87, 88, 89, 90, 91, 92, 93, 94, 95, 96, 97, 98, 99, 100] (by decide +kernel) (by decide +kernel)
set_option maxRecDepth 20000 in
theorem gX5_gateOf_X0_ofGate : GoodIn wsX5_gateOf (wsV RX5 75 RX0 yX0_ofGate wsX0_ofGate) := goodIn_app (goodIn_of _ (by decide +kernel)) ggX5_gateOf_X0_ofGate
theorem dX5_gateOf_0 : decode cX5_gateOf 0 = .ok (.aload_n 0, 1) := by decide +kernel
theorem dX5_gateOf_1 : decode cX5_gateOf 1 = .ok (.getfield 10, 3) := by decide +kernel
theorem dX5_gateOf_4 : decode cX5_gateOf 4 = .ok (.iload_n 1, 1) := by decide +kernel
theorem dX5_gateOf_5 : decode cX5_gateOf 5 = .ok (.iload_n 2, 1) := by decide +kernel
theorem dX5_gateOf_6 : decode cX5_gateOf 6 = .ok (.invokevirtual 75, 3) := by decide +kernel
theorem dX5_gateOf_9 : decode cX5_gateOf 9 = .ok (.ireturn, 1) := by decide +kernel
set_option maxRecDepth 20000 in
theorem ggX5_craneOf_X0_ofCrane : GoodIn wsX5_craneOf wsX0_ofCrane := goodIn_r _ [6, 7, 8, 9, 10, 11, 12, 13, 14, 15, 16, 17, 18, 5, 19, 20, 21, 22, 23, 24, 25, 30, 31, 32, 33, 34, 35, 36, 37, 38, 39, 40, 41, 42, 43, 44, 45, 46, 47, 48, 49, 50, 51] (by decide +kernel) (by decide +kernel)
set_option maxRecDepth 20000 in
theorem gX5_craneOf_X0_ofCrane : GoodIn wsX5_craneOf (wsV RX5 78 RX0 yX0_ofCrane wsX0_ofCrane) := goodIn_app (goodIn_of _ (by decide +kernel)) ggX5_craneOf_X0_ofCrane
theorem dX5_craneOf_0 : decode cX5_craneOf 0 = .ok (.aload_n 0, 1) := by decide +kernel
theorem dX5_craneOf_1 : decode cX5_craneOf 1 = .ok (.getfield 10, 3) := by decide +kernel
theorem dX5_craneOf_4 : decode cX5_craneOf 4 = .ok (.iload_n 1, 1) := by decide +kernel
theorem dX5_craneOf_5 : decode cX5_craneOf 5 = .ok (.invokevirtual 78, 3) := by decide +kernel
theorem dX5_craneOf_8 : decode cX5_craneOf 8 = .ok (.ireturn, 1) := by decide +kernel
set_option maxRecDepth 20000 in
theorem ggX5_orderAt_X0_gateOfOrder : GoodIn wsX5_orderAt wsX0_gateOfOrder := goodIn_r _ [6, 7, 8, 9, 10, 5, 11, 12, 13, 14, 15, 16, 17, 18, 19, 20, 21, 22, 23, 24, 29, 30, 31, 32, 33, 34, 35, 36, 37, 38, 39, 40, 41, 42, 43, 44, 45, 46, 47, 48, 49, 50] (by decide +kernel) (by decide +kernel)
set_option maxRecDepth 20000 in
theorem gX5_orderAt_X0_gateOfOrder : GoodIn wsX5_orderAt (wsV RX5 81 RX0 yX0_gateOfOrder wsX0_gateOfOrder) := goodIn_app (goodIn_of _ (by decide +kernel)) ggX5_orderAt_X0_gateOfOrder
theorem dX5_orderAt_0 : decode cX5_orderAt 0 = .ok (.aload_n 0, 1) := by decide +kernel
theorem dX5_orderAt_1 : decode cX5_orderAt 1 = .ok (.getfield 10, 3) := by decide +kernel
theorem dX5_orderAt_4 : decode cX5_orderAt 4 = .ok (.iload_n 1, 1) := by decide +kernel
theorem dX5_orderAt_5 : decode cX5_orderAt 5 = .ok (.invokevirtual 81, 3) := by decide +kernel
theorem dX5_orderAt_8 : decode cX5_orderAt 8 = .ok (.ireturn, 1) := by decide +kernel
set_option maxRecDepth 20000 in
theorem ggX5_markAt_X0_gateOfMark : GoodIn wsX5_markAt wsX0_gateOfMark := goodIn_r _ [6, 7, 8, 9, 10, 5, 11, 12, 13, 14, 15, 16, 17, 18, 19, 20, 21, 22, 23, 24, 29, 30, 31, 32, 33, 34, 35, 36, 37, 38, 39, 40, 41, 42, 43, 44, 45, 46, 47, 48, 49, 50] (by decide +kernel) (by decide +kernel)
set_option maxRecDepth 20000 in
theorem gX5_markAt_X0_gateOfMark : GoodIn wsX5_markAt (wsV RX5 84 RX0 yX0_gateOfMark wsX0_gateOfMark) := goodIn_app (goodIn_of _ (by decide +kernel)) ggX5_markAt_X0_gateOfMark
theorem dX5_markAt_0 : decode cX5_markAt 0 = .ok (.aload_n 0, 1) := by decide +kernel
theorem dX5_markAt_1 : decode cX5_markAt 1 = .ok (.getfield 10, 3) := by decide +kernel
theorem dX5_markAt_4 : decode cX5_markAt 4 = .ok (.iload_n 1, 1) := by decide +kernel
theorem dX5_markAt_5 : decode cX5_markAt 5 = .ok (.invokevirtual 84, 3) := by decide +kernel
theorem dX5_markAt_8 : decode cX5_markAt 8 = .ok (.ireturn, 1) := by decide +kernel
set_option maxRecDepth 20000 in
theorem ggX5_would_X0_copyFrom : GoodIn wsX5_would wsX0_copyFrom := goodIn_r _ [8, 9, 10, 11, 12, 13, 14, 15, 16, 17, 18, 19, 20, 21, 22, 23, 24, 25, 26, 27, 28, 29, 30, 31, 32, 33, 34, 35, 36, 37, 38, 39, 40, 41, 42, 43, 44, 45, 46, 47, 48, 49, 50, 51, 178, 179, 180, 181, 182, 183, 184, 185, 186, 187, 188, 189, 190, 191, 192, 193, 194, 195, 196, 197, 198, 199, 200, 201, 202, 203, 204, 205] (by decide +kernel) (by decide +kernel)
set_option maxRecDepth 20000 in
theorem gX5_would_X0_copyFrom : GoodIn wsX5_would (wsV RX5 88 RX0 yX0_copyFrom wsX0_copyFrom) := goodIn_app (goodIn_of _ (by decide +kernel)) ggX5_would_X0_copyFrom
set_option maxRecDepth 20000 in
theorem ggX5_would_X0_letPass : GoodIn wsX5_would wsX0_letPass := goodIn_r _ [55, 22, 56, 57, 58, 7, 59, 23, 24, 11, 26, 27, 17, 12, 60, 61, 62, 63, 64, 65, 66, 67, 68, 69, 70, 46, 71, 48, 72, 73, 74, 75, 76, 49, 51, 77, 78, 79, 80, 81, 82, 83, 84, 85, 86, 87, 88, 30, 89, 90, 91, 92, 9, 25, 10, 93, 94, 95, 34, 96, 36, 97, 98, 99, 40, 100, 101, 102, 103, 104, 105, 106, 107, 108, 109, 110, 111, 112, 113, 114, 115, 116, 117, 118, 119, 120, 121, 122, 123, 124, 125, 126, 127, 128, 129, 130, 131, 132, 133, 29, 134, 135, 136, 137, 28, 138, 139, 140, 141, 37, 142, 42, 143, 144, 145, 146, 147, 148, 149, 150, 18, 19, 151, 20, 21, 152, 153, 154, 155, 156, 157, 158, 159, 160, 161, 162, 163, 39, 164, 165, 166, 167, 41, 178, 179, 180, 181, 182, 183, 184, 185, 186, 187, 188, 189, 190, 191, 192, 193, 194, 195, 202, 203, 204, 205, 196, 197, 198, 199, 200, 201] (by decide +kernel) (by decide +kernel)
set_option maxRecDepth 20000 in
theorem gX5_would_X0_letPass : GoodIn wsX5_would (wsV RX5 67 RX0 yX0_letPass wsX0_letPass) := goodIn_app (goodIn_of _ (by decide +kernel)) ggX5_would_X0_letPass
set_option maxRecDepth 20000 in
theorem ggX5_would_X0_outlook : GoodIn wsX5_would wsX0_outlook := goodIn_r _ [171, 17, 25, 11, 10, 23, 9, 172, 104, 105, 106, 46, 107, 48, 173, 144, 145, 34, 146, 36, 126, 127, 128, 129, 40, 178, 179, 180, 181, 182, 183, 184, 185, 186, 187, 188, 189, 190, 191, 192, 193, 194, 195, 202, 203, 204, 205, 196, 197, 198, 199, 200, 201] (by decide +kernel) (by decide +kernel)
set_option maxRecDepth 20000 in
theorem gX5_would_X0_outlook : GoodIn wsX5_would (wsV RX5 91 RX0 yX0_outlook wsX0_outlook) := goodIn_app (goodIn_of _ (by decide +kernel)) ggX5_would_X0_outlook
theorem dX5_would_0 : decode cX5_would 0 = .ok (.iload_n 1, 1) := by decide +kernel
theorem dX5_would_1 : decode cX5_would 1 = .ok (.ifCond .lt 10, 3) := by decide +kernel
theorem dX5_would_4 : decode cX5_would 4 = .ok (.iload_n 1, 1) := by decide +kernel
theorem dX5_would_5 : decode cX5_would 5 = .ok (.sipush 500, 3) := by decide +kernel
theorem dX5_would_8 : decode cX5_would 8 = .ok (.if_icmp .le 6, 3) := by decide +kernel
theorem dX5_would_11 : decode cX5_would 11 = .ok (.ldc 87, 2) := by decide +kernel
theorem dX5_would_13 : decode cX5_would 13 = .ok (.ireturn, 1) := by decide +kernel
theorem dX5_would_14 : decode cX5_would 14 = .ok (.aload_n 0, 1) := by decide +kernel
theorem dX5_would_15 : decode cX5_would 15 = .ok (.getfield 16, 3) := by decide +kernel
theorem dX5_would_18 : decode cX5_would 18 = .ok (.aload_n 0, 1) := by decide +kernel
theorem dX5_would_19 : decode cX5_would 19 = .ok (.getfield 10, 3) := by decide +kernel
theorem dX5_would_22 : decode cX5_would 22 = .ok (.invokevirtual 88, 3) := by decide +kernel
theorem dX5_would_25 : decode cX5_would 25 = .ok (.aload_n 0, 1) := by decide +kernel
theorem dX5_would_26 : decode cX5_would 26 = .ok (.getfield 16, 3) := by decide +kernel
theorem dX5_would_29 : decode cX5_would 29 = .ok (.iload_n 1, 1) := by decide +kernel
theorem dX5_would_30 : decode cX5_would 30 = .ok (.invokevirtual 67, 3) := by decide +kernel
theorem dX5_would_33 : decode cX5_would 33 = .ok (.aload_n 0, 1) := by decide +kernel
theorem dX5_would_34 : decode cX5_would 34 = .ok (.getfield 16, 3) := by decide +kernel
theorem dX5_would_37 : decode cX5_would 37 = .ok (.iload_n 2, 1) := by decide +kernel
theorem dX5_would_38 : decode cX5_would 38 = .ok (.invokevirtual 91, 3) := by decide +kernel
theorem dX5_would_41 : decode cX5_would 41 = .ok (.ireturn, 1) := by decide +kernel
set_option maxRecDepth 20000 in
theorem ggX5_minutesUntil_X0_copyFrom : GoodIn wsX5_minutesUntil wsX0_copyFrom := goodIn_r _ [9, 10, 11, 12, 13, 14, 15, 16, 17, 18, 19, 20, 21, 22, 23, 24, 25, 26, 27, 28, 29, 30, 31, 32, 33, 34, 35, 36, 37, 38, 39, 40, 41, 42, 43, 44, 45, 46, 47, 48, 49, 50, 51, 52, 177, 178, 179, 180, 181, 182, 183, 184, 185, 186, 187, 188, 189, 190, 191, 192, 193, 194, 195, 196, 197, 198, 199, 200, 201, 202, 203, 204] (by decide +kernel) (by decide +kernel)
set_option maxRecDepth 20000 in
theorem gX5_minutesUntil_X0_copyFrom : GoodIn wsX5_minutesUntil (wsV RX5 88 RX0 yX0_copyFrom wsX0_copyFrom) := goodIn_app (goodIn_of _ (by decide +kernel)) ggX5_minutesUntil_X0_copyFrom
set_option maxRecDepth 20000 in
theorem ggX5_minutesUntil_X0_water : GoodIn wsX5_minutesUntil wsX0_water := goodIn_r _ [56, 18, 177, 178, 179, 180, 181, 182, 183, 184, 185, 186, 187, 188, 189, 190, 191, 192, 193, 194] (by decide +kernel) (by decide +kernel)
set_option maxRecDepth 20000 in
theorem gX5_minutesUntil_X0_water : GoodIn wsX5_minutesUntil (wsV RX5 71 RX0 yX0_water wsX0_water) := goodIn_app (goodIn_of _ (by decide +kernel)) ggX5_minutesUntil_X0_water
set_option maxRecDepth 20000 in
theorem ggX5_minutesUntil_X0_letPass : GoodIn wsX5_minutesUntil wsX0_letPass := goodIn_r _ [60, 23, 61, 62, 63, 8, 64, 24, 25, 12, 27, 28, 18, 13, 65, 66, 67, 68, 69, 70, 71, 72, 73, 74, 75, 47, 76, 49, 77, 78, 79, 80, 81, 50, 52, 82, 83, 84, 85, 86, 87, 88, 89, 90, 91, 92, 93, 31, 94, 95, 96, 97, 10, 26, 11, 98, 99, 100, 35, 101, 37, 102, 103, 104, 41, 105, 106, 107, 108, 109, 110, 111, 112, 113, 114, 115, 116, 117, 118, 119, 120, 121, 122, 123, 124, 125, 126, 127, 128, 129, 130, 131, 132, 133, 134, 135, 136, 137, 138, 30, 139, 140, 141, 142, 29, 143, 144, 145, 146, 38, 147, 43, 148, 149, 150, 151, 152, 153, 154, 155, 19, 20, 156, 21, 22, 157, 158, 159, 160, 161, 162, 163, 164, 165, 166, 167, 168, 40, 169, 170, 171, 172, 42, 177, 178, 179, 180, 181, 182, 183, 184, 185, 186, 187, 188, 189, 190, 191, 192, 193, 194, 201, 202, 203, 204, 195, 196, 197, 198, 199, 200] (by decide +kernel) (by decide +kernel)
set_option maxRecDepth 20000 in
theorem gX5_minutesUntil_X0_letPass : GoodIn wsX5_minutesUntil (wsV RX5 67 RX0 yX0_letPass wsX0_letPass) := goodIn_app (goodIn_of _ (by decide +kernel)) ggX5_minutesUntil_X0_letPass
theorem dX5_minutesUntil_0 : decode cX5_minutesUntil 0 = .ok (.iload_n 1, 1) := by decide +kernel
theorem dX5_minutesUntil_1 : decode cX5_minutesUntil 1 = .ok (.ifCond .lt 19, 3) := by decide +kernel
theorem dX5_minutesUntil_4 : decode cX5_minutesUntil 4 = .ok (.iload_n 1, 1) := by decide +kernel
theorem dX5_minutesUntil_5 : decode cX5_minutesUntil 5 = .ok (.sipush 9999, 3) := by decide +kernel
theorem dX5_minutesUntil_8 : decode cX5_minutesUntil 8 = .ok (.if_icmp .gt 12, 3) := by decide +kernel
theorem dX5_minutesUntil_11 : decode cX5_minutesUntil 11 = .ok (.iload_n 2, 1) := by decide +kernel
theorem dX5_minutesUntil_12 : decode cX5_minutesUntil 12 = .ok (.ifCond .lt 8, 3) := by decide +kernel
theorem dX5_minutesUntil_15 : decode cX5_minutesUntil 15 = .ok (.iload_n 2, 1) := by decide +kernel
theorem dX5_minutesUntil_16 : decode cX5_minutesUntil 16 = .ok (.iconst 1, 1) := by decide +kernel
theorem dX5_minutesUntil_17 : decode cX5_minutesUntil 17 = .ok (.if_icmp .le 6, 3) := by decide +kernel
theorem dX5_minutesUntil_20 : decode cX5_minutesUntil 20 = .ok (.ldc 87, 2) := by decide +kernel
theorem dX5_minutesUntil_22 : decode cX5_minutesUntil 22 = .ok (.ireturn, 1) := by decide +kernel
theorem dX5_minutesUntil_23 : decode cX5_minutesUntil 23 = .ok (.aload_n 0, 1) := by decide +kernel
theorem dX5_minutesUntil_24 : decode cX5_minutesUntil 24 = .ok (.getfield 16, 3) := by decide +kernel
theorem dX5_minutesUntil_27 : decode cX5_minutesUntil 27 = .ok (.aload_n 0, 1) := by decide +kernel
theorem dX5_minutesUntil_28 : decode cX5_minutesUntil 28 = .ok (.getfield 10, 3) := by decide +kernel
theorem dX5_minutesUntil_31 : decode cX5_minutesUntil 31 = .ok (.invokevirtual 88, 3) := by decide +kernel
theorem dX5_minutesUntil_34 : decode cX5_minutesUntil 34 = .ok (.iconst 0, 1) := by decide +kernel
theorem dX5_minutesUntil_35 : decode cX5_minutesUntil 35 = .ok (.istore_n 3, 1) := by decide +kernel
theorem dX5_minutesUntil_36 : decode cX5_minutesUntil 36 = .ok (.iload_n 3, 1) := by decide +kernel
theorem dX5_minutesUntil_37 : decode cX5_minutesUntil 37 = .ok (.sipush 1000, 3) := by decide +kernel
theorem dX5_minutesUntil_40 : decode cX5_minutesUntil 40 = .ok (.if_icmp .gt 47, 3) := by decide +kernel
theorem dX5_minutesUntil_43 : decode cX5_minutesUntil 43 = .ok (.aload_n 0, 1) := by decide +kernel
theorem dX5_minutesUntil_44 : decode cX5_minutesUntil 44 = .ok (.getfield 16, 3) := by decide +kernel
theorem dX5_minutesUntil_47 : decode cX5_minutesUntil 47 = .ok (.invokevirtual 71, 3) := by decide +kernel
theorem dX5_minutesUntil_50 : decode cX5_minutesUntil 50 = .ok (.istore 4, 2) := by decide +kernel
theorem dX5_minutesUntil_52 : decode cX5_minutesUntil 52 = .ok (.iload_n 2, 1) := by decide +kernel
theorem dX5_minutesUntil_53 : decode cX5_minutesUntil 53 = .ok (.ifCond .ne 12, 3) := by decide +kernel
theorem dX5_minutesUntil_56 : decode cX5_minutesUntil 56 = .ok (.iload 4, 2) := by decide +kernel
theorem dX5_minutesUntil_58 : decode cX5_minutesUntil 58 = .ok (.iload_n 1, 1) := by decide +kernel
theorem dX5_minutesUntil_59 : decode cX5_minutesUntil 59 = .ok (.if_icmp .lt 14, 3) := by decide +kernel
theorem dX5_minutesUntil_62 : decode cX5_minutesUntil 62 = .ok (.goto 9, 3) := by decide +kernel
theorem dX5_minutesUntil_65 : decode cX5_minutesUntil 65 = .ok (.iload 4, 2) := by decide +kernel
theorem dX5_minutesUntil_67 : decode cX5_minutesUntil 67 = .ok (.iload_n 1, 1) := by decide +kernel
theorem dX5_minutesUntil_68 : decode cX5_minutesUntil 68 = .ok (.if_icmp .gt 5, 3) := by decide +kernel
theorem dX5_minutesUntil_71 : decode cX5_minutesUntil 71 = .ok (.iload_n 3, 1) := by decide +kernel
theorem dX5_minutesUntil_72 : decode cX5_minutesUntil 72 = .ok (.ireturn, 1) := by decide +kernel
theorem dX5_minutesUntil_73 : decode cX5_minutesUntil 73 = .ok (.aload_n 0, 1) := by decide +kernel
theorem dX5_minutesUntil_74 : decode cX5_minutesUntil 74 = .ok (.getfield 16, 3) := by decide +kernel
theorem dX5_minutesUntil_77 : decode cX5_minutesUntil 77 = .ok (.iconst 1, 1) := by decide +kernel
theorem dX5_minutesUntil_78 : decode cX5_minutesUntil 78 = .ok (.invokevirtual 67, 3) := by decide +kernel
theorem dX5_minutesUntil_81 : decode cX5_minutesUntil 81 = .ok (.iinc 3 1, 3) := by decide +kernel
theorem dX5_minutesUntil_84 : decode cX5_minutesUntil 84 = .ok (.goto (-48), 3) := by decide +kernel
theorem dX5_minutesUntil_87 : decode cX5_minutesUntil 87 = .ok (.ldc 94, 2) := by decide +kernel
theorem dX5_minutesUntil_89 : decode cX5_minutesUntil 89 = .ok (.ireturn, 1) := by decide +kernel
set_option maxRecDepth 20000 in
theorem ggX5_minutesToRest_X0_rule : GoodIn wsX5_minutesToRest wsX0_rule := goodIn_r _ [6, 7, 190, 191, 192, 193, 194, 195, 196, 197, 198, 199, 200, 201, 202, 203, 204, 205, 206, 207] (by decide +kernel) (by decide +kernel)
set_option maxRecDepth 20000 in
theorem gX5_minutesToRest_X0_rule : GoodIn wsX5_minutesToRest (wsV RX5 95 RX0 yX0_rule wsX0_rule) := goodIn_app (goodIn_of _ (by decide +kernel)) ggX5_minutesToRest_X0_rule
set_option maxRecDepth 20000 in
theorem ggX5_minutesToRest_X5_minutesToRestBy : GoodIn wsX5_minutesToRest wsX5_minutesToRestBy := goodIn_r _ [12, 13, 1, 14, 15, 16, 17, 5, 18, 19, 20, 21, 7, 22, 23, 24, 25, 26, 27, 28, 29, 30, 31, 32, 33, 34, 35, 36, 37, 38, 39, 40, 41, 42, 43, 44, 45, 46, 47, 48, 49, 50, 51, 52, 53, 54, 55, 56, 57, 58, 59, 60, 61, 62, 63, 64, 65, 66, 67, 68, 69, 70, 71, 72, 73, 74, 75, 76, 77, 78, 79, 80, 81, 82, 83, 84, 85, 86, 87, 88, 89, 90, 91, 92, 93, 94, 95, 96, 97, 98, 99, 100, 101, 102, 103, 104, 105, 106, 107, 108, 109, 110, 111, 112, 113, 114, 115, 116, 117, 118, 119, 120, 121, 122, 123, 124, 125, 126, 127, 128, 129, 130, 131, 132, 133, 134, 135, 136, 137, 138, 139, 140, 141, 142, 143, 144, 145, 146, 147, 148, 149, 150, 151, 152, 153, 154, 155, 156, 157, 158, 159, 160, 161, 162, 163, 164, 165, 166, 167, 168, 169, 170, 171, 172, 173, 174, 175, 176, 177, 178, 179, 180, 181, 182, 183, 184, 185, 186, 187, 188, 189, 190, 191, 192, 193, 194, 195, 196, 197, 198, 199, 200, 201, 202, 203, 204, 205, 206, 207, 208, 209, 210, 211, 212, 213, 214, 215, 216, 217] (by decide +kernel) (by decide +kernel)
set_option maxRecDepth 20000 in
theorem gX5_minutesToRest_X5_minutesToRestBy : GoodIn wsX5_minutesToRest (wsV RX5 98 RX5 yX5_minutesToRestBy wsX5_minutesToRestBy) := goodIn_app (goodIn_of _ (by decide +kernel)) ggX5_minutesToRest_X5_minutesToRestBy
theorem dX5_minutesToRest_0 : decode cX5_minutesToRest 0 = .ok (.aload_n 0, 1) := by decide +kernel
theorem dX5_minutesToRest_1 : decode cX5_minutesToRest 1 = .ok (.aload_n 0, 1) := by decide +kernel
theorem dX5_minutesToRest_2 : decode cX5_minutesToRest 2 = .ok (.getfield 10, 3) := by decide +kernel
theorem dX5_minutesToRest_5 : decode cX5_minutesToRest 5 = .ok (.invokevirtual 95, 3) := by decide +kernel
theorem dX5_minutesToRest_8 : decode cX5_minutesToRest 8 = .ok (.invokevirtual 98, 3) := by decide +kernel
theorem dX5_minutesToRest_11 : decode cX5_minutesToRest 11 = .ok (.ireturn, 1) := by decide +kernel
set_option maxRecDepth 20000 in
theorem ggX5_bestRule_X5_minutesToRestBy : GoodIn wsX5_bestRule wsX5_minutesToRestBy := goodIn_r _ [7, 8, 9, 2, 10, 11, 12, 13, 14, 15, 16, 17, 18, 19, 20, 21, 22, 23, 24, 25, 26, 27, 28, 29, 30, 31, 32, 33, 34, 35, 36, 37, 38, 39, 40, 41, 42, 43, 44, 45, 46, 47, 48, 49, 50, 51, 52, 53, 54, 55, 56, 57, 58, 59, 60, 61, 62, 63, 64, 65, 66, 67, 68, 69, 70, 71, 72, 73, 74, 75, 76, 77, 78, 79, 80, 81, 82, 83, 84, 85, 86, 87, 88, 89, 90, 91, 92, 93, 94, 95, 96, 97, 98, 99, 100, 101, 102, 103, 104, 105, 106, 107, 108, 109, 110, 111, 112, 113, 114, 115, 116, 117, 118, 119, 120, 121, 122, 123, 124, 125, 126, 127, 128, 129, 130, 131, 132, 133, 134, 135, 136, 137, 138, 139, 140, 141, 142, 143, 144, 145, 146, 147, 148, 149, 150, 151, 152, 153, 154, 155, 156, 157, 158, 159, 160, 161, 162, 163, 164, 165, 166, 167, 168, 169, 170, 171, 172, 173, 174, 175, 176, 177, 178, 179, 180, 181, 182, 183, 184, 185, 186, 187, 188, 189, 190, 191, 192, 193, 194, 195, 196, 197, 198, 199, 200, 201, 202, 203, 204, 205, 206, 207, 208, 209, 210, 211, 212, 213, 214] (by decide +kernel) (by decide +kernel)
set_option maxRecDepth 20000 in
theorem gX5_bestRule_X5_minutesToRestBy : GoodIn wsX5_bestRule (wsV RX5 98 RX5 yX5_minutesToRestBy wsX5_minutesToRestBy) := goodIn_app (goodIn_of _ (by decide +kernel)) ggX5_bestRule_X5_minutesToRestBy
theorem dX5_bestRule_0 : decode cX5_bestRule 0 = .ok (.iload_n 1, 1) := by decide +kernel
theorem dX5_bestRule_1 : decode cX5_bestRule 1 = .ok (.ifCond .lt 8, 3) := by decide +kernel
theorem dX5_bestRule_4 : decode cX5_bestRule 4 = .ok (.iload_n 1, 1) := by decide +kernel
theorem dX5_bestRule_5 : decode cX5_bestRule 5 = .ok (.iconst 1, 1) := by decide +kernel
theorem dX5_bestRule_6 : decode cX5_bestRule 6 = .ok (.if_icmp .le 6, 3) := by decide +kernel
theorem dX5_bestRule_9 : decode cX5_bestRule 9 = .ok (.ldc 87, 2) := by decide +kernel
theorem dX5_bestRule_11 : decode cX5_bestRule 11 = .ok (.ireturn, 1) := by decide +kernel
theorem dX5_bestRule_12 : decode cX5_bestRule 12 = .ok (.ldc 94, 2) := by decide +kernel
theorem dX5_bestRule_14 : decode cX5_bestRule 14 = .ok (.istore_n 2, 1) := by decide +kernel
theorem dX5_bestRule_15 : decode cX5_bestRule 15 = .ok (.ldc 94, 2) := by decide +kernel
theorem dX5_bestRule_17 : decode cX5_bestRule 17 = .ok (.istore_n 3, 1) := by decide +kernel
theorem dX5_bestRule_18 : decode cX5_bestRule 18 = .ok (.iconst 0, 1) := by decide +kernel
theorem dX5_bestRule_19 : decode cX5_bestRule 19 = .ok (.istore 4, 2) := by decide +kernel
theorem dX5_bestRule_21 : decode cX5_bestRule 21 = .ok (.iload 4, 2) := by decide +kernel
theorem dX5_bestRule_23 : decode cX5_bestRule 23 = .ok (.iconst 2, 1) := by decide +kernel
theorem dX5_bestRule_24 : decode cX5_bestRule 24 = .ok (.if_icmp .gt 42, 3) := by decide +kernel
theorem dX5_bestRule_27 : decode cX5_bestRule 27 = .ok (.aload_n 0, 1) := by decide +kernel
theorem dX5_bestRule_28 : decode cX5_bestRule 28 = .ok (.iload 4, 2) := by decide +kernel
theorem dX5_bestRule_30 : decode cX5_bestRule 30 = .ok (.invokevirtual 98, 3) := by decide +kernel
theorem dX5_bestRule_33 : decode cX5_bestRule 33 = .ok (.istore 5, 2) := by decide +kernel
theorem dX5_bestRule_35 : decode cX5_bestRule 35 = .ok (.iload 5, 2) := by decide +kernel
theorem dX5_bestRule_37 : decode cX5_bestRule 37 = .ok (.ldc 94, 2) := by decide +kernel
theorem dX5_bestRule_39 : decode cX5_bestRule 39 = .ok (.if_icmp .eq 21, 3) := by decide +kernel
theorem dX5_bestRule_42 : decode cX5_bestRule 42 = .ok (.iload_n 2, 1) := by decide +kernel
theorem dX5_bestRule_43 : decode cX5_bestRule 43 = .ok (.ldc 94, 2) := by decide +kernel
theorem dX5_bestRule_45 : decode cX5_bestRule 45 = .ok (.if_icmp .eq 9, 3) := by decide +kernel
theorem dX5_bestRule_48 : decode cX5_bestRule 48 = .ok (.iload 5, 2) := by decide +kernel
theorem dX5_bestRule_50 : decode cX5_bestRule 50 = .ok (.iload_n 3, 1) := by decide +kernel
theorem dX5_bestRule_51 : decode cX5_bestRule 51 = .ok (.if_icmp .ge 9, 3) := by decide +kernel
theorem dX5_bestRule_54 : decode cX5_bestRule 54 = .ok (.iload 4, 2) := by decide +kernel
theorem dX5_bestRule_56 : decode cX5_bestRule 56 = .ok (.istore_n 2, 1) := by decide +kernel
theorem dX5_bestRule_57 : decode cX5_bestRule 57 = .ok (.iload 5, 2) := by decide +kernel
theorem dX5_bestRule_59 : decode cX5_bestRule 59 = .ok (.istore_n 3, 1) := by decide +kernel
theorem dX5_bestRule_60 : decode cX5_bestRule 60 = .ok (.iinc 4 1, 3) := by decide +kernel
theorem dX5_bestRule_63 : decode cX5_bestRule 63 = .ok (.goto (-42), 3) := by decide +kernel
theorem dX5_bestRule_66 : decode cX5_bestRule 66 = .ok (.iload_n 1, 1) := by decide +kernel
theorem dX5_bestRule_67 : decode cX5_bestRule 67 = .ok (.ifCond .ne 7, 3) := by decide +kernel
theorem dX5_bestRule_70 : decode cX5_bestRule 70 = .ok (.iload_n 2, 1) := by decide +kernel
theorem dX5_bestRule_71 : decode cX5_bestRule 71 = .ok (.goto 4, 3) := by decide +kernel
theorem dX5_bestRule_74 : decode cX5_bestRule 74 = .ok (.iload_n 3, 1) := by decide +kernel
theorem dX5_bestRule_75 : decode cX5_bestRule 75 = .ok (.ireturn, 1) := by decide +kernel
set_option maxRecDepth 20000 in
theorem ggX5_leastFlood_X0_isFlooded : GoodIn wsX5_leastFlood wsX0_isFlooded := goodIn_r _ [8, 9, 196, 197, 198, 199, 200, 201, 202, 203, 204, 205, 206, 207, 208, 209, 210, 211, 212, 213] (by decide +kernel) (by decide +kernel)
set_option maxRecDepth 20000 in
theorem gX5_leastFlood_X0_isFlooded : GoodIn wsX5_leastFlood (wsV RX5 101 RX0 yX0_isFlooded wsX0_isFlooded) := goodIn_app (goodIn_of _ (by decide +kernel)) ggX5_leastFlood_X0_isFlooded
set_option maxRecDepth 20000 in
theorem ggX5_leastFlood_X5_floodBegins : GoodIn wsX5_leastFlood wsX5_floodBegins := goodIn_r _ [14, 15, 2, 16, 17, 18, 7, 19, 20, 21, 22, 23, 24, 25, 26, 27, 28, 29, 30, 31, 32, 33, 9, 34, 35, 36, 37, 38, 39, 40, 41, 42, 43, 44, 45, 46, 47, 48, 49, 50, 51, 52, 53, 54, 55, 56, 57, 58, 59, 60, 61, 62, 63, 64, 65, 66, 67, 68, 69, 70, 71, 72, 73, 74, 75, 76, 77, 78, 79, 80, 81, 82, 83, 84, 85, 86, 87, 88, 89, 90, 91, 92, 93, 94, 95, 96, 97, 98, 99, 100, 101, 102, 103, 104, 105, 106, 107, 108, 109, 110, 111, 112, 113, 114, 115, 116, 117, 118, 119, 120, 121, 122, 123, 124, 125, 126, 127, 128, 129, 130, 131, 132, 133, 134, 135, 136, 137, 138, 139, 140, 141, 142, 143, 144, 145, 146, 147, 148, 149, 150, 151, 152, 153, 154, 155, 156, 157, 158, 159, 160, 161, 162, 163, 164, 165, 166, 167, 168, 169, 170, 171, 172, 173, 174, 175, 176, 177, 178, 179, 180, 181, 182, 183, 184, 185, 186, 187, 188, 189, 190, 191, 192, 193, 194, 195, 196, 197, 198, 199, 200, 201, 202, 203, 204, 205, 206, 207, 208, 209, 210, 211, 212, 213, 214, 215, 216, 217, 218, 219, 220, 221, 222, 223] (by decide +kernel) (by decide +kernel)
set_option maxRecDepth 20000 in
theorem gX5_leastFlood_X5_floodBegins : GoodIn wsX5_leastFlood (wsV RX5 105 RX5 yX5_floodBegins wsX5_floodBegins) := goodIn_app (goodIn_of _ (by decide +kernel)) ggX5_leastFlood_X5_floodBegins
theorem dX5_leastFlood_0 : decode cX5_leastFlood 0 = .ok (.iload_n 1, 1) := by decide +kernel
theorem dX5_leastFlood_1 : decode cX5_leastFlood 1 = .ok (.iconst 1, 1) := by decide +kernel
theorem dX5_leastFlood_2 : decode cX5_leastFlood 2 = .ok (.if_icmp .lt 9, 3) := by decide +kernel
theorem dX5_leastFlood_5 : decode cX5_leastFlood 5 = .ok (.iload_n 1, 1) := by decide +kernel
theorem dX5_leastFlood_6 : decode cX5_leastFlood 6 = .ok (.bipush 60, 2) := by decide +kernel
theorem dX5_leastFlood_8 : decode cX5_leastFlood 8 = .ok (.if_icmp .le 6, 3) := by decide +kernel
theorem dX5_leastFlood_11 : decode cX5_leastFlood 11 = .ok (.ldc 87, 2) := by decide +kernel
theorem dX5_leastFlood_13 : decode cX5_leastFlood 13 = .ok (.ireturn, 1) := by decide +kernel
theorem dX5_leastFlood_14 : decode cX5_leastFlood 14 = .ok (.aload_n 0, 1) := by decide +kernel
theorem dX5_leastFlood_15 : decode cX5_leastFlood 15 = .ok (.getfield 10, 3) := by decide +kernel
theorem dX5_leastFlood_18 : decode cX5_leastFlood 18 = .ok (.invokevirtual 101, 3) := by decide +kernel
theorem dX5_leastFlood_21 : decode cX5_leastFlood 21 = .ok (.ifCond .eq 5, 3) := by decide +kernel
theorem dX5_leastFlood_24 : decode cX5_leastFlood 24 = .ok (.iconst 0, 1) := by decide +kernel
theorem dX5_leastFlood_25 : decode cX5_leastFlood 25 = .ok (.ireturn, 1) := by decide +kernel
theorem dX5_leastFlood_26 : decode cX5_leastFlood 26 = .ok (.iconst 0, 1) := by decide +kernel
theorem dX5_leastFlood_27 : decode cX5_leastFlood 27 = .ok (.istore_n 2, 1) := by decide +kernel
theorem dX5_leastFlood_28 : decode cX5_leastFlood 28 = .ok (.iload_n 2, 1) := by decide +kernel
theorem dX5_leastFlood_29 : decode cX5_leastFlood 29 = .ok (.sipush 300, 3) := by decide +kernel
theorem dX5_leastFlood_32 : decode cX5_leastFlood 32 = .ok (.if_icmp .gt 20, 3) := by decide +kernel
theorem dX5_leastFlood_35 : decode cX5_leastFlood 35 = .ok (.aload_n 0, 1) := by decide +kernel
theorem dX5_leastFlood_36 : decode cX5_leastFlood 36 = .ok (.iload_n 2, 1) := by decide +kernel
theorem dX5_leastFlood_37 : decode cX5_leastFlood 37 = .ok (.iload_n 1, 1) := by decide +kernel
theorem dX5_leastFlood_38 : decode cX5_leastFlood 38 = .ok (.invokevirtual 105, 3) := by decide +kernel
theorem dX5_leastFlood_41 : decode cX5_leastFlood 41 = .ok (.ifCond .eq 5, 3) := by decide +kernel
theorem dX5_leastFlood_44 : decode cX5_leastFlood 44 = .ok (.iload_n 2, 1) := by decide +kernel
theorem dX5_leastFlood_45 : decode cX5_leastFlood 45 = .ok (.ireturn, 1) := by decide +kernel
theorem dX5_leastFlood_46 : decode cX5_leastFlood 46 = .ok (.iinc 2 1, 3) := by decide +kernel
theorem dX5_leastFlood_49 : decode cX5_leastFlood 49 = .ok (.goto (-21), 3) := by decide +kernel
theorem dX5_leastFlood_52 : decode cX5_leastFlood 52 = .ok (.ldc 94, 2) := by decide +kernel
theorem dX5_leastFlood_54 : decode cX5_leastFlood 54 = .ok (.ireturn, 1) := by decide +kernel
set_option maxRecDepth 20000 in
theorem ggX5_count_X2_size : GoodIn wsX5_count wsX2_size := goodIn_r _ [8, 9, 53, 54] (by decide +kernel) (by decide +kernel)
set_option maxRecDepth 20000 in
theorem gX5_count_X2_size : GoodIn wsX5_count (wsV RX5 109 RX2 yX2_size wsX2_size) := goodIn_app (goodIn_of _ (by decide +kernel)) ggX5_count_X2_size
set_option maxRecDepth 20000 in
theorem ggX5_count_X3_length : GoodIn wsX5_count wsX3_length := goodIn_r _ [14, 15, 55, 56, 57, 58, 59, 60, 61, 62] (by decide +kernel) (by decide +kernel)
set_option maxRecDepth 20000 in
theorem gX5_count_X3_length : GoodIn wsX5_count (wsV RX5 112 RX3 yX3_length wsX3_length) := goodIn_app (goodIn_of _ (by decide +kernel)) ggX5_count_X3_length
set_option maxRecDepth 20000 in
theorem ggX5_count_X0_number : GoodIn wsX5_count wsX0_number := goodIn_r _ [20, 21, 22, 23, 24, 25, 26, 27, 28, 29, 30, 31, 32, 33, 34, 35, 36, 37, 38, 39, 40, 41, 19, 42, 43, 44, 45, 46, 47, 48, 63, 64, 65, 66, 67, 68, 69, 70, 71, 72, 73, 74, 75, 76, 77, 78, 79, 80, 81, 82, 83, 84, 85, 86, 87, 88, 89, 90] (by decide +kernel) (by decide +kernel)
set_option maxRecDepth 20000 in
theorem gX5_count_X0_number : GoodIn wsX5_count (wsV RX5 115 RX0 yX0_number wsX0_number) := goodIn_app (goodIn_of _ (by decide +kernel)) ggX5_count_X0_number
theorem dX5_count_0 : decode cX5_count 0 = .ok (.iload_n 1, 1) := by decide +kernel
theorem dX5_count_1 : decode cX5_count 1 = .ok (.bipush 11, 2) := by decide +kernel
theorem dX5_count_3 : decode cX5_count 3 = .ok (.if_icmp .ne 11, 3) := by decide +kernel
theorem dX5_count_6 : decode cX5_count 6 = .ok (.aload_n 0, 1) := by decide +kernel
theorem dX5_count_7 : decode cX5_count 7 = .ok (.getfield 22, 3) := by decide +kernel
theorem dX5_count_10 : decode cX5_count 10 = .ok (.invokevirtual 109, 3) := by decide +kernel
theorem dX5_count_13 : decode cX5_count 13 = .ok (.ireturn, 1) := by decide +kernel
theorem dX5_count_14 : decode cX5_count 14 = .ok (.iload_n 1, 1) := by decide +kernel
theorem dX5_count_15 : decode cX5_count 15 = .ok (.bipush 12, 2) := by decide +kernel
theorem dX5_count_17 : decode cX5_count 17 = .ok (.if_icmp .ne 11, 3) := by decide +kernel
theorem dX5_count_20 : decode cX5_count 20 = .ok (.aload_n 0, 1) := by decide +kernel
theorem dX5_count_21 : decode cX5_count 21 = .ok (.getfield 29, 3) := by decide +kernel
theorem dX5_count_24 : decode cX5_count 24 = .ok (.invokevirtual 112, 3) := by decide +kernel
theorem dX5_count_27 : decode cX5_count 27 = .ok (.ireturn, 1) := by decide +kernel
theorem dX5_count_28 : decode cX5_count 28 = .ok (.aload_n 0, 1) := by decide +kernel
theorem dX5_count_29 : decode cX5_count 29 = .ok (.getfield 10, 3) := by decide +kernel
theorem dX5_count_32 : decode cX5_count 32 = .ok (.iload_n 1, 1) := by decide +kernel
theorem dX5_count_33 : decode cX5_count 33 = .ok (.invokevirtual 115, 3) := by decide +kernel
theorem dX5_count_36 : decode cX5_count 36 = .ok (.ireturn, 1) := by decide +kernel
set_option maxRecDepth 20000 in
theorem ggX5_undo_X2_size : GoodIn wsX5_undo wsX2_size := goodIn_r _ [8, 9, 71, 72] (by decide +kernel) (by decide +kernel)
set_option maxRecDepth 20000 in
theorem gX5_undo_X2_size : GoodIn wsX5_undo (wsV RX5 109 RX2 yX2_size wsX2_size) := goodIn_app (goodIn_of _ (by decide +kernel)) ggX5_undo_X2_size
set_option maxRecDepth 20000 in
theorem ggX5_undo_X2_restore : GoodIn wsX5_undo wsX2_restore := goodIn_r _ [13, 9, 14, 15, 16, 7, 17, 18, 19, 20, 21, 22, 23, 24, 25, 26, 27, 28, 29, 30, 31, 32, 33, 34, 35, 36, 37, 38, 39, 40, 41, 42, 43, 44, 45, 46, 47, 48, 49, 50, 51, 52, 53, 54, 55, 56, 57, 58, 59, 60, 61, 62, 63, 64, 65, 66, 71, 72, 73, 74, 75, 76, 77, 78, 79, 80, 81, 82, 83, 84, 85, 86, 87, 88, 89, 90, 91, 92, 93, 94, 95, 96, 97, 98, 99, 100] (by decide +kernel) (by decide +kernel)
set_option maxRecDepth 20000 in
theorem gX5_undo_X2_restore : GoodIn wsX5_undo (wsV RX5 119 RX2 yX2_restore wsX2_restore) := goodIn_app (goodIn_of _ (by decide +kernel)) ggX5_undo_X2_restore
theorem dX5_undo_0 : decode cX5_undo 0 = .ok (.aload_n 0, 1) := by decide +kernel
theorem dX5_undo_1 : decode cX5_undo 1 = .ok (.getfield 22, 3) := by decide +kernel
theorem dX5_undo_4 : decode cX5_undo 4 = .ok (.invokevirtual 109, 3) := by decide +kernel
theorem dX5_undo_7 : decode cX5_undo 7 = .ok (.ifCond .ne 6, 3) := by decide +kernel
theorem dX5_undo_10 : decode cX5_undo 10 = .ok (.ldc 118, 2) := by decide +kernel
theorem dX5_undo_12 : decode cX5_undo 12 = .ok (.ireturn, 1) := by decide +kernel
theorem dX5_undo_13 : decode cX5_undo 13 = .ok (.aload_n 0, 1) := by decide +kernel
theorem dX5_undo_14 : decode cX5_undo 14 = .ok (.getfield 22, 3) := by decide +kernel
theorem dX5_undo_17 : decode cX5_undo 17 = .ok (.aload_n 0, 1) := by decide +kernel
theorem dX5_undo_18 : decode cX5_undo 18 = .ok (.getfield 10, 3) := by decide +kernel
theorem dX5_undo_21 : decode cX5_undo 21 = .ok (.invokevirtual 119, 3) := by decide +kernel
theorem dX5_undo_24 : decode cX5_undo 24 = .ok (.aload_n 0, 1) := by decide +kernel
theorem dX5_undo_25 : decode cX5_undo 25 = .ok (.getfield 22, 3) := by decide +kernel
theorem dX5_undo_28 : decode cX5_undo 28 = .ok (.invokevirtual 109, 3) := by decide +kernel
theorem dX5_undo_31 : decode cX5_undo 31 = .ok (.ireturn, 1) := by decide +kernel
set_option maxRecDepth 20000 in
theorem ggX5_type_X3_append : GoodIn wsX5_type wsX3_append := goodIn_r _ [6, 7, 8, 9, 10, 15, 16, 17, 18, 19, 20, 21, 22] (by decide +kernel) (by decide +kernel)
set_option maxRecDepth 20000 in
theorem gX5_type_X3_append : GoodIn wsX5_type (wsV RX5 122 RX3 yX3_append wsX3_append) := goodIn_app (goodIn_of _ (by decide +kernel)) ggX5_type_X3_append
theorem dX5_type_0 : decode cX5_type 0 = .ok (.aload_n 0, 1) := by decide +kernel
theorem dX5_type_1 : decode cX5_type 1 = .ok (.getfield 29, 3) := by decide +kernel
theorem dX5_type_4 : decode cX5_type 4 = .ok (.iload_n 1, 1) := by decide +kernel
theorem dX5_type_5 : decode cX5_type 5 = .ok (.invokevirtual 122, 3) := by decide +kernel
theorem dX5_type_8 : decode cX5_type 8 = .ok (.ireturn, 1) := by decide +kernel
set_option maxRecDepth 20000 in
theorem ggX5_clearText_X3_empty : GoodIn wsX5_clearText wsX3_empty := goodIn_r _ [6, 7, 12, 13, 14, 15, 16, 17, 18, 19] (by decide +kernel) (by decide +kernel)
set_option maxRecDepth 20000 in
theorem gX5_clearText_X3_empty : GoodIn wsX5_clearText (wsV RX5 125 RX3 yX3_empty wsX3_empty) := goodIn_app (goodIn_of _ (by decide +kernel)) ggX5_clearText_X3_empty
theorem dX5_clearText_0 : decode cX5_clearText 0 = .ok (.aload_n 0, 1) := by decide +kernel
theorem dX5_clearText_1 : decode cX5_clearText 1 = .ok (.getfield 29, 3) := by decide +kernel
theorem dX5_clearText_4 : decode cX5_clearText 4 = .ok (.invokevirtual 125, 3) := by decide +kernel
theorem dX5_clearText_7 : decode cX5_clearText 7 = .ok (.ireturn, 1) := by decide +kernel
set_option maxRecDepth 20000 in
theorem ggX5_fault_X0_copyFrom : GoodIn wsX5_fault wsX0_copyFrom := goodIn_r _ [10, 11, 12, 13, 14, 15, 16, 17, 18, 19, 20, 21, 22, 23, 24, 25, 26, 27, 28, 29, 30, 31, 32, 33, 34, 35, 36, 37, 38, 39, 40, 41, 42, 43, 44, 45, 46, 47, 48, 49, 50, 51, 52, 53, 266, 267, 268, 269, 270, 271, 272, 273, 274, 275, 276, 277, 278, 279, 280, 281, 282, 283, 284, 285, 286, 287, 288, 289, 290, 291, 292, 293] (by decide +kernel) (by decide +kernel)
set_option maxRecDepth 20000 in
theorem gX5_fault_X0_copyFrom : GoodIn wsX5_fault (wsV RX5 88 RX0 yX0_copyFrom wsX0_copyFrom) := goodIn_app (goodIn_of _ (by decide +kernel)) ggX5_fault_X0_copyFrom
set_option maxRecDepth 20000 in
theorem ggX5_fault_X3_doOrdersOn : GoodIn wsX5_fault wsX3_doOrdersOn := goodIn_r _ [58, 59, 60, 61, 62, 63, 64, 65, 57, 66, 67, 68, 69, 70, 71, 72, 73, 74, 75, 76, 77, 78, 79, 80, 81, 82, 83, 84, 85, 86, 87, 88, 89, 9, 90, 11, 91, 92, 13, 12, 93, 94, 95, 36, 96, 38, 97, 98, 99, 100, 39, 101, 102, 103, 104, 48, 105, 50, 51, 106, 107, 108, 109, 53, 110, 111, 112, 113, 114, 115, 116, 117, 118, 119, 120, 121, 122, 123, 20, 124, 125, 126, 127, 128, 129, 130, 131, 132, 133, 134, 135, 136, 137, 138, 139, 140, 141, 142, 143, 144, 41, 42, 43, 44, 145, 146, 147, 148, 149, 150, 151, 152, 153, 24, 154, 155, 156, 157, 158, 159, 160, 161, 162, 163, 164, 165, 25, 26, 28, 29, 19, 14, 166, 167, 168, 169, 170, 171, 172, 173, 174, 175, 176, 177, 178, 179, 180, 181, 182, 183, 184, 185, 186, 32, 187, 188, 189, 190, 27, 191, 192, 193, 194, 195, 196, 197, 198, 199, 200, 201, 202, 203, 204, 205, 206, 207, 208, 209, 210, 211, 212, 213, 214, 215, 216, 217, 218, 219, 220, 221, 222, 31, 223, 224, 225, 226, 30, 227, 228, 229, 230, 231, 232, 233, 234, 235, 21, 236, 22, 23, 237, 238, 239, 240, 241, 242, 243, 244, 245, 246, 247, 248, 249, 250, 251, 252, 253, 294, 295, 296, 297, 298, 299, 300, 301, 266, 267, 268, 269, 270, 271, 272, 273, 274, 275, 276, 277, 278, 279, 280, 281, 282, 283, 284, 285, 286, 287, 288, 289, 290, 291, 292, 293] (by decide +kernel) (by decide +kernel)
set_option maxRecDepth 20000 in
theorem gX5_fault_X3_doOrdersOn : GoodIn wsX5_fault (wsV RX5 128 RX3 yX3_doOrdersOn wsX3_doOrdersOn) := goodIn_app (goodIn_of _ (by decide +kernel)) ggX5_fault_X3_doOrdersOn
set_option maxRecDepth 20000 in
theorem ggX5_fault_X3_faultReason : GoodIn wsX5_fault wsX3_faultReason := goodIn_r _ [257, 60, 294, 295, 296, 297, 298, 299, 300, 301] (by decide +kernel) (by decide +kernel)
set_option maxRecDepth 20000 in
theorem gX5_fault_X3_faultReason : GoodIn wsX5_fault (wsV RX5 131 RX3 yX3_faultReason wsX3_faultReason) := goodIn_app (goodIn_of _ (by decide +kernel)) ggX5_fault_X3_faultReason
set_option maxRecDepth 20000 in
theorem ggX5_fault_X3_faultPlace : GoodIn wsX5_fault wsX3_faultPlace := goodIn_r _ [261, 62, 294, 295, 296, 297, 298, 299, 300, 301] (by decide +kernel) (by decide +kernel)
set_option maxRecDepth 20000 in
theorem gX5_fault_X3_faultPlace : GoodIn wsX5_fault (wsV RX5 134 RX3 yX3_faultPlace wsX3_faultPlace) := goodIn_app (goodIn_of _ (by decide +kernel)) ggX5_fault_X3_faultPlace
theorem dX5_fault_0 : decode cX5_fault 0 = .ok (.iload_n 1, 1) := by decide +kernel
theorem dX5_fault_1 : decode cX5_fault 1 = .ok (.ifCond .lt 8, 3) := by decide +kernel
theorem dX5_fault_4 : decode cX5_fault 4 = .ok (.iload_n 1, 1) := by decide +kernel
theorem dX5_fault_5 : decode cX5_fault 5 = .ok (.iconst 1, 1) := by decide +kernel
theorem dX5_fault_6 : decode cX5_fault 6 = .ok (.if_icmp .le 6, 3) := by decide +kernel
theorem dX5_fault_9 : decode cX5_fault 9 = .ok (.ldc 87, 2) := by decide +kernel
theorem dX5_fault_11 : decode cX5_fault 11 = .ok (.ireturn, 1) := by decide +kernel
theorem dX5_fault_12 : decode cX5_fault 12 = .ok (.aload_n 0, 1) := by decide +kernel
theorem dX5_fault_13 : decode cX5_fault 13 = .ok (.getfield 16, 3) := by decide +kernel
theorem dX5_fault_16 : decode cX5_fault 16 = .ok (.aload_n 0, 1) := by decide +kernel
theorem dX5_fault_17 : decode cX5_fault 17 = .ok (.getfield 10, 3) := by decide +kernel
theorem dX5_fault_20 : decode cX5_fault 20 = .ok (.invokevirtual 88, 3) := by decide +kernel
theorem dX5_fault_23 : decode cX5_fault 23 = .ok (.aload_n 0, 1) := by decide +kernel
theorem dX5_fault_24 : decode cX5_fault 24 = .ok (.getfield 29, 3) := by decide +kernel
theorem dX5_fault_27 : decode cX5_fault 27 = .ok (.aload_n 0, 1) := by decide +kernel
theorem dX5_fault_28 : decode cX5_fault 28 = .ok (.getfield 16, 3) := by decide +kernel
theorem dX5_fault_31 : decode cX5_fault 31 = .ok (.invokevirtual 128, 3) := by decide +kernel
theorem dX5_fault_34 : decode cX5_fault 34 = .ok (.aload_n 0, 1) := by decide +kernel
theorem dX5_fault_35 : decode cX5_fault 35 = .ok (.getfield 29, 3) := by decide +kernel
theorem dX5_fault_38 : decode cX5_fault 38 = .ok (.invokevirtual 131, 3) := by decide +kernel
theorem dX5_fault_41 : decode cX5_fault 41 = .ok (.ifCond .ne 6, 3) := by decide +kernel
theorem dX5_fault_44 : decode cX5_fault 44 = .ok (.ldc 94, 2) := by decide +kernel
theorem dX5_fault_46 : decode cX5_fault 46 = .ok (.ireturn, 1) := by decide +kernel
theorem dX5_fault_47 : decode cX5_fault 47 = .ok (.iload_n 1, 1) := by decide +kernel
theorem dX5_fault_48 : decode cX5_fault 48 = .ok (.ifCond .ne 13, 3) := by decide +kernel
theorem dX5_fault_51 : decode cX5_fault 51 = .ok (.aload_n 0, 1) := by decide +kernel
theorem dX5_fault_52 : decode cX5_fault 52 = .ok (.getfield 29, 3) := by decide +kernel
theorem dX5_fault_55 : decode cX5_fault 55 = .ok (.invokevirtual 134, 3) := by decide +kernel
theorem dX5_fault_58 : decode cX5_fault 58 = .ok (.goto 10, 3) := by decide +kernel
theorem dX5_fault_61 : decode cX5_fault 61 = .ok (.aload_n 0, 1) := by decide +kernel
theorem dX5_fault_62 : decode cX5_fault 62 = .ok (.getfield 29, 3) := by decide +kernel
theorem dX5_fault_65 : decode cX5_fault 65 = .ok (.invokevirtual 131, 3) := by decide +kernel
theorem dX5_fault_68 : decode cX5_fault 68 = .ok (.ireturn, 1) := by decide +kernel
set_option maxRecDepth 20000 in
theorem ggX5_play_X0_copyFrom : GoodIn wsX5_play wsX0_copyFrom := goodIn_r _ [10, 11, 12, 13, 14, 15, 16, 17, 18, 19, 20, 21, 22, 23, 24, 25, 26, 27, 28, 29, 30, 31, 32, 33, 34, 35, 36, 37, 38, 39, 40, 41, 42, 43, 44, 45, 46, 47, 48, 49, 50, 51, 52, 53, 287, 288, 289, 290, 291, 292, 293, 294, 295, 296, 297, 298, 299, 300, 301, 302, 303, 304, 305, 306, 307, 308, 309, 310, 311, 312, 313, 314] (by decide +kernel) (by decide +kernel)
set_option maxRecDepth 20000 in
theorem gX5_play_X0_copyFrom : GoodIn wsX5_play (wsV RX5 88 RX0 yX0_copyFrom wsX0_copyFrom) := goodIn_app (goodIn_of _ (by decide +kernel)) ggX5_play_X0_copyFrom
set_option maxRecDepth 20000 in
theorem ggX5_play_X3_doOrdersOn : GoodIn wsX5_play wsX3_doOrdersOn := goodIn_r _ [58, 59, 60, 61, 62, 63, 64, 65, 57, 66, 67, 68, 69, 70, 71, 72, 73, 74, 75, 76, 77, 78, 79, 80, 81, 82, 83, 84, 85, 86, 87, 88, 89, 9, 90, 11, 91, 92, 13, 12, 93, 94, 95, 36, 96, 38, 97, 98, 99, 100, 39, 101, 102, 103, 104, 48, 105, 50, 51, 106, 107, 108, 109, 53, 110, 111, 112, 113, 114, 115, 116, 117, 118, 119, 120, 121, 122, 123, 20, 124, 125, 126, 127, 128, 129, 130, 131, 132, 133, 134, 135, 136, 137, 138, 139, 140, 141, 142, 143, 144, 41, 42, 43, 44, 145, 146, 147, 148, 149, 150, 151, 152, 153, 24, 154, 155, 156, 157, 158, 159, 160, 161, 162, 163, 164, 165, 25, 26, 28, 29, 19, 14, 166, 167, 168, 169, 170, 171, 172, 173, 174, 175, 176, 177, 178, 179, 180, 181, 182, 183, 184, 185, 186, 32, 187, 188, 189, 190, 27, 191, 192, 193, 194, 195, 196, 197, 198, 199, 200, 201, 202, 203, 204, 205, 206, 207, 208, 209, 210, 211, 212, 213, 214, 215, 216, 217, 218, 219, 220, 221, 222, 31, 223, 224, 225, 226, 30, 227, 228, 229, 230, 231, 232, 233, 234, 235, 21, 236, 22, 23, 237, 238, 239, 240, 241, 242, 243, 244, 245, 246, 247, 248, 249, 250, 251, 252, 253, 315, 316, 317, 318, 319, 320, 321, 322, 287, 288, 289, 290, 291, 292, 293, 294, 295, 296, 297, 298, 299, 300, 301, 302, 303, 304, 305, 306, 307, 308, 309, 310, 311, 312, 313, 314] (by decide +kernel) (by decide +kernel)
set_option maxRecDepth 20000 in
theorem gX5_play_X3_doOrdersOn : GoodIn wsX5_play (wsV RX5 128 RX3 yX3_doOrdersOn wsX3_doOrdersOn) := goodIn_app (goodIn_of _ (by decide +kernel)) ggX5_play_X3_doOrdersOn
set_option maxRecDepth 20000 in
theorem ggX5_play_X3_faultReason : GoodIn wsX5_play wsX3_faultReason := goodIn_r _ [257, 60, 315, 316, 317, 318, 319, 320, 321, 322] (by decide +kernel) (by decide +kernel)
set_option maxRecDepth 20000 in
theorem gX5_play_X3_faultReason : GoodIn wsX5_play (wsV RX5 131 RX3 yX3_faultReason wsX3_faultReason) := goodIn_app (goodIn_of _ (by decide +kernel)) ggX5_play_X3_faultReason
set_option maxRecDepth 20000 in
theorem ggX5_play_X2_prepare : GoodIn wsX5_play wsX2_prepare := goodIn_r _ [262, 263, 264, 265, 266, 261, 267, 268, 269, 7, 8, 9, 10, 11, 12, 13, 14, 15, 16, 17, 18, 19, 20, 21, 22, 23, 24, 25, 26, 27, 28, 29, 30, 31, 32, 33, 34, 35, 36, 37, 38, 39, 40, 41, 42, 43, 44, 45, 46, 47, 48, 49, 50, 51, 52, 53, 323, 324, 287, 288, 289, 290, 291, 292, 293, 294, 295, 296, 297, 298, 299, 300, 301, 302, 303, 304, 305, 306, 307, 308, 309, 310, 311, 312, 313, 314] (by decide +kernel) (by decide +kernel)
set_option maxRecDepth 20000 in
theorem gX5_play_X2_prepare : GoodIn wsX5_play (wsV RX5 33 RX2 yX2_prepare wsX2_prepare) := goodIn_app (goodIn_of _ (by decide +kernel)) ggX5_play_X2_prepare
set_option maxRecDepth 20000 in
theorem ggX5_play_X0_water : GoodIn wsX5_play wsX0_water := goodIn_r _ [273, 19, 287, 288, 289, 290, 291, 292, 293, 294, 295, 296, 297, 298, 299, 300, 301, 302, 303, 304] (by decide +kernel) (by decide +kernel)
set_option maxRecDepth 20000 in
theorem gX5_play_X0_water : GoodIn wsX5_play (wsV RX5 71 RX0 yX0_water wsX0_water) := goodIn_app (goodIn_of _ (by decide +kernel)) ggX5_play_X0_water
set_option maxRecDepth 20000 in
theorem ggX5_play_X5_kept : GoodIn wsX5_play wsX5_kept := goodIn_r _ [277, 5, 278, 155, 156, 157, 279, 280, 281, 261, 282, 263, 268, 283, 284, 285, 286, 323, 324] (by decide +kernel) (by decide +kernel)
set_option maxRecDepth 20000 in
theorem gX5_play_X5_kept : GoodIn wsX5_play (wsV RX5 41 RX5 yX5_kept wsX5_kept) := goodIn_app (goodIn_of _ (by decide +kernel)) ggX5_play_X5_kept
theorem dX5_play_0 : decode cX5_play 0 = .ok (.aload_n 0, 1) := by decide +kernel
theorem dX5_play_1 : decode cX5_play 1 = .ok (.getfield 16, 3) := by decide +kernel
theorem dX5_play_4 : decode cX5_play 4 = .ok (.aload_n 0, 1) := by decide +kernel
theorem dX5_play_5 : decode cX5_play 5 = .ok (.getfield 10, 3) := by decide +kernel
theorem dX5_play_8 : decode cX5_play 8 = .ok (.invokevirtual 88, 3) := by decide +kernel
theorem dX5_play_11 : decode cX5_play 11 = .ok (.aload_n 0, 1) := by decide +kernel
theorem dX5_play_12 : decode cX5_play 12 = .ok (.getfield 29, 3) := by decide +kernel
theorem dX5_play_15 : decode cX5_play 15 = .ok (.aload_n 0, 1) := by decide +kernel
theorem dX5_play_16 : decode cX5_play 16 = .ok (.getfield 16, 3) := by decide +kernel
theorem dX5_play_19 : decode cX5_play 19 = .ok (.invokevirtual 128, 3) := by decide +kernel
theorem dX5_play_22 : decode cX5_play 22 = .ok (.aload_n 0, 1) := by decide +kernel
theorem dX5_play_23 : decode cX5_play 23 = .ok (.getfield 29, 3) := by decide +kernel
theorem dX5_play_26 : decode cX5_play 26 = .ok (.invokevirtual 131, 3) := by decide +kernel
theorem dX5_play_29 : decode cX5_play 29 = .ok (.ifCond .eq 6, 3) := by decide +kernel
theorem dX5_play_32 : decode cX5_play 32 = .ok (.ldc 118, 2) := by decide +kernel
theorem dX5_play_34 : decode cX5_play 34 = .ok (.ireturn, 1) := by decide +kernel
theorem dX5_play_35 : decode cX5_play 35 = .ok (.aload_n 0, 1) := by decide +kernel
theorem dX5_play_36 : decode cX5_play 36 = .ok (.getfield 22, 3) := by decide +kernel
theorem dX5_play_39 : decode cX5_play 39 = .ok (.aload_n 0, 1) := by decide +kernel
theorem dX5_play_40 : decode cX5_play 40 = .ok (.getfield 10, 3) := by decide +kernel
theorem dX5_play_43 : decode cX5_play 43 = .ok (.invokevirtual 33, 3) := by decide +kernel
theorem dX5_play_46 : decode cX5_play 46 = .ok (.aload_n 0, 1) := by decide +kernel
theorem dX5_play_47 : decode cX5_play 47 = .ok (.getfield 10, 3) := by decide +kernel
theorem dX5_play_50 : decode cX5_play 50 = .ok (.aload_n 0, 1) := by decide +kernel
theorem dX5_play_51 : decode cX5_play 51 = .ok (.getfield 16, 3) := by decide +kernel
theorem dX5_play_54 : decode cX5_play 54 = .ok (.invokevirtual 88, 3) := by decide +kernel
theorem dX5_play_57 : decode cX5_play 57 = .ok (.aload_n 0, 1) := by decide +kernel
theorem dX5_play_58 : decode cX5_play 58 = .ok (.aload_n 0, 1) := by decide +kernel
theorem dX5_play_59 : decode cX5_play 59 = .ok (.getfield 10, 3) := by decide +kernel
theorem dX5_play_62 : decode cX5_play 62 = .ok (.invokevirtual 71, 3) := by decide +kernel
theorem dX5_play_65 : decode cX5_play 65 = .ok (.invokevirtual 41, 3) := by decide +kernel
theorem dX5_play_68 : decode cX5_play 68 = .ok (.ireturn, 1) := by decide +kernel
theorem dX5_isError_0 : decode cX5_isError 0 = .ok (.iload_n 0, 1) := by decide +kernel
theorem dX5_isError_1 : decode cX5_isError 1 = .ok (.ifCond .ge 7, 3) := by decide +kernel
theorem dX5_isError_4 : decode cX5_isError 4 = .ok (.iconst 1, 1) := by decide +kernel
theorem dX5_isError_5 : decode cX5_isError 5 = .ok (.goto 4, 3) := by decide +kernel
theorem dX5_isError_8 : decode cX5_isError 8 = .ok (.iconst 0, 1) := by decide +kernel
theorem dX5_isError_9 : decode cX5_isError 9 = .ok (.ireturn, 1) := by decide +kernel
set_option maxRecDepth 20000 in
theorem ggX5_kept_X5_isError : GoodIn wsX5_kept wsX5_isError := goodIn_r _ [5] (by decide +kernel) (by decide +kernel)
set_option maxRecDepth 20000 in
theorem gX5_kept_X5_isError : GoodIn wsX5_kept (va_wsS RX5 63 yX5_isError wsX5_isError) := goodIn_app (goodIn_of _ (by decide +kernel)) ggX5_kept_X5_isError
set_option maxRecDepth 20000 in
theorem ggX5_kept_X2_keepPrepared : GoodIn wsX5_kept wsX2_keepPrepared := goodIn_r _ [10, 11, 12, 17, 18] (by decide +kernel) (by decide +kernel)
set_option maxRecDepth 20000 in
theorem gX5_kept_X2_keepPrepared : GoodIn wsX5_kept (wsV RX5 137 RX2 yX2_keepPrepared wsX2_keepPrepared) := goodIn_app (goodIn_of _ (by decide +kernel)) ggX5_kept_X2_keepPrepared
theorem dX5_kept_0 : decode cX5_kept 0 = .ok (.iload_n 1, 1) := by decide +kernel
theorem dX5_kept_1 : decode cX5_kept 1 = .ok (.invokestatic 63, 3) := by decide +kernel
theorem dX5_kept_4 : decode cX5_kept 4 = .ok (.ifCond .ne 10, 3) := by decide +kernel
theorem dX5_kept_7 : decode cX5_kept 7 = .ok (.aload_n 0, 1) := by decide +kernel
theorem dX5_kept_8 : decode cX5_kept 8 = .ok (.getfield 22, 3) := by decide +kernel
theorem dX5_kept_11 : decode cX5_kept 11 = .ok (.invokevirtual 137, 3) := by decide +kernel
theorem dX5_kept_14 : decode cX5_kept 14 = .ok (.iload_n 1, 1) := by decide +kernel
theorem dX5_kept_15 : decode cX5_kept 15 = .ok (.ireturn, 1) := by decide +kernel
set_option maxRecDepth 20000 in
theorem ggX5_minutesToRestBy_X0_copyFrom : GoodIn wsX5_minutesToRestBy wsX0_copyFrom := goodIn_r _ [8, 9, 10, 11, 12, 13, 14, 15, 16, 17, 18, 19, 20, 21, 22, 23, 24, 25, 26, 27, 28, 29, 30, 31, 32, 33, 34, 35, 36, 37, 38, 39, 40, 41, 42, 43, 44, 45, 46, 47, 48, 49, 50, 51, 181, 182, 183, 184, 185, 186, 187, 188, 189, 190, 191, 192, 193, 194, 195, 196, 197, 198, 199, 200, 201, 202, 203, 204, 205, 206, 207, 208] (by decide +kernel) (by decide +kernel)
set_option maxRecDepth 20000 in
theorem gX5_minutesToRestBy_X0_copyFrom : GoodIn wsX5_minutesToRestBy (wsV RX5 88 RX0 yX0_copyFrom wsX0_copyFrom) := goodIn_app (goodIn_of _ (by decide +kernel)) ggX5_minutesToRestBy_X0_copyFrom
set_option maxRecDepth 20000 in
theorem ggX5_minutesToRestBy_X0_changeSetting : GoodIn wsX5_minutesToRestBy wsX0_changeSetting := goodIn_r _ [55, 56, 12, 181, 182, 183, 184, 185, 186, 187, 188, 189, 190, 191, 192, 193, 194, 195, 196, 197, 198] (by decide +kernel) (by decide +kernel)
set_option maxRecDepth 20000 in
theorem gX5_minutesToRestBy_X0_changeSetting : GoodIn wsX5_minutesToRestBy (wsV RX5 57 RX0 yX0_changeSetting wsX0_changeSetting) := goodIn_app (goodIn_of _ (by decide +kernel)) ggX5_minutesToRestBy_X0_changeSetting
set_option maxRecDepth 20000 in
theorem ggX5_minutesToRestBy_X0_rests : GoodIn wsX5_minutesToRestBy wsX0_rests := goodIn_r _ [60, 23, 61, 62, 63, 7, 64, 26, 65, 66, 67, 68, 11, 10, 69, 70, 71, 46, 72, 48, 181, 182, 183, 184, 185, 186, 187, 188, 189, 190, 191, 192, 193, 194, 195, 196, 197, 198, 205, 206, 207, 208] (by decide +kernel) (by decide +kernel)
set_option maxRecDepth 20000 in
theorem gX5_minutesToRestBy_X0_rests : GoodIn wsX5_minutesToRestBy (wsV RX5 140 RX0 yX0_rests wsX0_rests) := goodIn_app (goodIn_of _ (by decide +kernel)) ggX5_minutesToRestBy_X0_rests
set_option maxRecDepth 20000 in
theorem ggX5_minutesToRestBy_X0_letPass : GoodIn wsX5_minutesToRestBy wsX0_letPass := goodIn_r _ [76, 22, 77, 78, 79, 7, 80, 23, 24, 11, 26, 27, 17, 12, 81, 82, 83, 84, 61, 62, 63, 64, 85, 86, 87, 46, 88, 48, 89, 90, 91, 92, 93, 49, 51, 94, 95, 96, 97, 98, 99, 100, 101, 102, 103, 104, 105, 30, 106, 107, 108, 109, 9, 25, 10, 110, 111, 112, 34, 113, 36, 114, 115, 116, 40, 65, 66, 67, 68, 69, 70, 71, 72, 117, 118, 119, 120, 121, 122, 123, 124, 125, 126, 127, 128, 129, 130, 131, 132, 133, 134, 135, 136, 137, 138, 139, 140, 141, 142, 29, 143, 144, 145, 146, 28, 147, 148, 149, 150, 37, 151, 42, 152, 153, 154, 155, 156, 157, 158, 159, 18, 19, 160, 20, 21, 161, 162, 163, 164, 165, 166, 167, 168, 169, 170, 171, 172, 39, 173, 174, 175, 176, 41, 181, 182, 183, 184, 185, 186, 187, 188, 189, 190, 191, 192, 193, 194, 195, 196, 197, 198, 205, 206, 207, 208, 199, 200, 201, 202, 203, 204] (by decide +kernel) (by decide +kernel)
set_option maxRecDepth 20000 in
theorem gX5_minutesToRestBy_X0_letPass : GoodIn wsX5_minutesToRestBy (wsV RX5 67 RX0 yX0_letPass wsX0_letPass) := goodIn_app (goodIn_of _ (by decide +kernel)) ggX5_minutesToRestBy_X0_letPass
theorem dX5_minutesToRestBy_0 : decode cX5_minutesToRestBy 0 = .ok (.aload_n 0, 1) := by decide +kernel
theorem dX5_minutesToRestBy_1 : decode cX5_minutesToRestBy 1 = .ok (.getfield 16, 3) := by decide +kernel
theorem dX5_minutesToRestBy_4 : decode cX5_minutesToRestBy 4 = .ok (.aload_n 0, 1) := by decide +kernel
theorem dX5_minutesToRestBy_5 : decode cX5_minutesToRestBy 5 = .ok (.getfield 10, 3) := by decide +kernel
theorem dX5_minutesToRestBy_8 : decode cX5_minutesToRestBy 8 = .ok (.invokevirtual 88, 3) := by decide +kernel
theorem dX5_minutesToRestBy_11 : decode cX5_minutesToRestBy 11 = .ok (.aload_n 0, 1) := by decide +kernel
theorem dX5_minutesToRestBy_12 : decode cX5_minutesToRestBy 12 = .ok (.getfield 16, 3) := by decide +kernel
theorem dX5_minutesToRestBy_15 : decode cX5_minutesToRestBy 15 = .ok (.iconst 2, 1) := by decide +kernel
theorem dX5_minutesToRestBy_16 : decode cX5_minutesToRestBy 16 = .ok (.iload_n 1, 1) := by decide +kernel
theorem dX5_minutesToRestBy_17 : decode cX5_minutesToRestBy 17 = .ok (.invokevirtual 57, 3) := by decide +kernel
theorem dX5_minutesToRestBy_20 : decode cX5_minutesToRestBy 20 = .ok (.pop, 1) := by decide +kernel
theorem dX5_minutesToRestBy_21 : decode cX5_minutesToRestBy 21 = .ok (.iconst 0, 1) := by decide +kernel
theorem dX5_minutesToRestBy_22 : decode cX5_minutesToRestBy 22 = .ok (.istore_n 2, 1) := by decide +kernel
theorem dX5_minutesToRestBy_23 : decode cX5_minutesToRestBy 23 = .ok (.iload_n 2, 1) := by decide +kernel
theorem dX5_minutesToRestBy_24 : decode cX5_minutesToRestBy 24 = .ok (.sipush 1000, 3) := by decide +kernel
theorem dX5_minutesToRestBy_27 : decode cX5_minutesToRestBy 27 = .ok (.if_icmp .gt 29, 3) := by decide +kernel
theorem dX5_minutesToRestBy_30 : decode cX5_minutesToRestBy 30 = .ok (.aload_n 0, 1) := by decide +kernel
theorem dX5_minutesToRestBy_31 : decode cX5_minutesToRestBy 31 = .ok (.getfield 16, 3) := by decide +kernel
theorem dX5_minutesToRestBy_34 : decode cX5_minutesToRestBy 34 = .ok (.invokevirtual 140, 3) := by decide +kernel
theorem dX5_minutesToRestBy_37 : decode cX5_minutesToRestBy 37 = .ok (.ifCond .eq 5, 3) := by decide +kernel
theorem dX5_minutesToRestBy_40 : decode cX5_minutesToRestBy 40 = .ok (.iload_n 2, 1) := by decide +kernel
theorem dX5_minutesToRestBy_41 : decode cX5_minutesToRestBy 41 = .ok (.ireturn, 1) := by decide +kernel
theorem dX5_minutesToRestBy_42 : decode cX5_minutesToRestBy 42 = .ok (.aload_n 0, 1) := by decide +kernel
theorem dX5_minutesToRestBy_43 : decode cX5_minutesToRestBy 43 = .ok (.getfield 16, 3) := by decide +kernel
theorem dX5_minutesToRestBy_46 : decode cX5_minutesToRestBy 46 = .ok (.iconst 1, 1) := by decide +kernel
theorem dX5_minutesToRestBy_47 : decode cX5_minutesToRestBy 47 = .ok (.invokevirtual 67, 3) := by decide +kernel
theorem dX5_minutesToRestBy_50 : decode cX5_minutesToRestBy 50 = .ok (.iinc 2 1, 3) := by decide +kernel
theorem dX5_minutesToRestBy_53 : decode cX5_minutesToRestBy 53 = .ok (.goto (-30), 3) := by decide +kernel
theorem dX5_minutesToRestBy_56 : decode cX5_minutesToRestBy 56 = .ok (.ldc 94, 2) := by decide +kernel
theorem dX5_minutesToRestBy_58 : decode cX5_minutesToRestBy 58 = .ok (.ireturn, 1) := by decide +kernel
set_option maxRecDepth 20000 in
theorem ggX5_floodBegins_X0_copyFrom : GoodIn wsX5_floodBegins wsX0_copyFrom := goodIn_r _ [7, 8, 9, 10, 11, 12, 13, 14, 15, 16, 17, 18, 19, 20, 21, 22, 23, 24, 25, 26, 27, 28, 29, 30, 31, 32, 33, 34, 35, 36, 37, 38, 39, 40, 41, 42, 43, 44, 45, 46, 47, 48, 49, 50, 185, 186, 187, 188, 189, 190, 191, 192, 193, 194, 195, 196, 197, 198, 199, 200, 201, 202, 203, 204, 205, 206, 207, 208, 209, 210, 211, 212] (by decide +kernel) (by decide +kernel)
set_option maxRecDepth 20000 in
theorem gX5_floodBegins_X0_copyFrom : GoodIn wsX5_floodBegins (wsV RX5 88 RX0 yX0_copyFrom wsX0_copyFrom) := goodIn_app (goodIn_of _ (by decide +kernel)) ggX5_floodBegins_X0_copyFrom
set_option maxRecDepth 20000 in
theorem ggX5_floodBegins_X0_changeInflow : GoodIn wsX5_floodBegins wsX0_changeInflow := goodIn_r _ [54, 55, 17, 185, 186, 187, 188, 189, 190, 191, 192, 193, 194, 195, 196, 197, 198, 199, 200, 201, 202] (by decide +kernel) (by decide +kernel)
set_option maxRecDepth 20000 in
theorem gX5_floodBegins_X0_changeInflow : GoodIn wsX5_floodBegins (wsV RX5 51 RX0 yX0_changeInflow wsX0_changeInflow) := goodIn_app (goodIn_of _ (by decide +kernel)) ggX5_floodBegins_X0_changeInflow
set_option maxRecDepth 20000 in
theorem ggX5_floodBegins_X0_floodIsDue : GoodIn wsX5_floodBegins wsX0_floodIsDue := goodIn_r _ [59, 22, 16, 11, 185, 186, 187, 188, 189, 190, 191, 192, 193, 194, 195, 196, 197, 198, 199, 200, 201, 202] (by decide +kernel) (by decide +kernel)
set_option maxRecDepth 20000 in
theorem gX5_floodBegins_X0_floodIsDue : GoodIn wsX5_floodBegins (wsV RX5 143 RX0 yX0_floodIsDue wsX0_floodIsDue) := goodIn_app (goodIn_of _ (by decide +kernel)) ggX5_floodBegins_X0_floodIsDue
set_option maxRecDepth 20000 in
theorem ggX5_floodBegins_X0_water : GoodIn wsX5_floodBegins wsX0_water := goodIn_r _ [63, 16, 185, 186, 187, 188, 189, 190, 191, 192, 193, 194, 195, 196, 197, 198, 199, 200, 201, 202] (by decide +kernel) (by decide +kernel)
set_option maxRecDepth 20000 in
theorem gX5_floodBegins_X0_water : GoodIn wsX5_floodBegins (wsV RX5 71 RX0 yX0_water wsX0_water) := goodIn_app (goodIn_of _ (by decide +kernel)) ggX5_floodBegins_X0_water
set_option maxRecDepth 20000 in
theorem ggX5_floodBegins_X0_floodLevel : GoodIn wsX5_floodBegins wsX0_floodLevel := goodIn_r _ [67, 11, 185, 186, 187, 188, 189, 190, 191, 192, 193, 194, 195, 196, 197, 198, 199, 200, 201, 202] (by decide +kernel) (by decide +kernel)
set_option maxRecDepth 20000 in
theorem gX5_floodBegins_X0_floodLevel : GoodIn wsX5_floodBegins (wsV RX5 146 RX0 yX0_floodLevel wsX0_floodLevel) := goodIn_app (goodIn_of _ (by decide +kernel)) ggX5_floodBegins_X0_floodLevel
set_option maxRecDepth 20000 in
theorem ggX5_floodBegins_X0_letPass : GoodIn wsX5_floodBegins wsX0_letPass := goodIn_r _ [71, 21, 72, 73, 74, 6, 75, 22, 23, 10, 25, 26, 16, 11, 76, 57, 58, 59, 77, 78, 79, 80, 81, 82, 83, 45, 84, 47, 85, 86, 87, 88, 89, 48, 50, 90, 91, 92, 93, 94, 95, 96, 97, 98, 99, 100, 101, 29, 102, 103, 104, 105, 8, 24, 9, 106, 107, 108, 33, 109, 35, 110, 111, 112, 39, 113, 114, 115, 116, 117, 118, 119, 120, 121, 122, 123, 124, 125, 126, 127, 128, 129, 130, 131, 132, 133, 134, 135, 136, 137, 138, 139, 140, 141, 142, 143, 144, 145, 146, 28, 147, 148, 149, 150, 27, 151, 152, 153, 154, 36, 155, 41, 156, 157, 158, 159, 160, 161, 162, 163, 17, 18, 164, 19, 20, 165, 166, 167, 168, 169, 170, 171, 172, 173, 174, 175, 176, 38, 177, 178, 179, 180, 40, 185, 186, 187, 188, 189, 190, 191, 192, 193, 194, 195, 196, 197, 198, 199, 200, 201, 202, 209, 210, 211, 212, 203, 204, 205, 206, 207, 208] (by decide +kernel) (by decide +kernel)
set_option maxRecDepth 20000 in
theorem gX5_floodBegins_X0_letPass : GoodIn wsX5_floodBegins (wsV RX5 67 RX0 yX0_letPass wsX0_letPass) := goodIn_app (goodIn_of _ (by decide +kernel)) ggX5_floodBegins_X0_letPass
theorem dX5_floodBegins_0 : decode cX5_floodBegins 0 = .ok (.aload_n 0, 1) := by decide +kernel
theorem dX5_floodBegins_1 : decode cX5_floodBegins 1 = .ok (.getfield 16, 3) := by decide +kernel
theorem dX5_floodBegins_4 : decode cX5_floodBegins 4 = .ok (.aload_n 0, 1) := by decide +kernel
theorem dX5_floodBegins_5 : decode cX5_floodBegins 5 = .ok (.getfield 10, 3) := by decide +kernel
theorem dX5_floodBegins_8 : decode cX5_floodBegins 8 = .ok (.invokevirtual 88, 3) := by decide +kernel
theorem dX5_floodBegins_11 : decode cX5_floodBegins 11 = .ok (.aload_n 0, 1) := by decide +kernel
theorem dX5_floodBegins_12 : decode cX5_floodBegins 12 = .ok (.getfield 16, 3) := by decide +kernel
theorem dX5_floodBegins_15 : decode cX5_floodBegins 15 = .ok (.iload_n 1, 1) := by decide +kernel
theorem dX5_floodBegins_16 : decode cX5_floodBegins 16 = .ok (.invokevirtual 51, 3) := by decide +kernel
theorem dX5_floodBegins_19 : decode cX5_floodBegins 19 = .ok (.pop, 1) := by decide +kernel
theorem dX5_floodBegins_20 : decode cX5_floodBegins 20 = .ok (.iload_n 2, 1) := by decide +kernel
theorem dX5_floodBegins_21 : decode cX5_floodBegins 21 = .ok (.iconst 1, 1) := by decide +kernel
theorem dX5_floodBegins_22 : decode cX5_floodBegins 22 = .ok (.isub, 1) := by decide +kernel
theorem dX5_floodBegins_23 : decode cX5_floodBegins 23 = .ok (.istore_n 3, 1) := by decide +kernel
theorem dX5_floodBegins_24 : decode cX5_floodBegins 24 = .ok (.iload_n 3, 1) := by decide +kernel
theorem dX5_floodBegins_25 : decode cX5_floodBegins 25 = .ok (.ifCond .lt 52, 3) := by decide +kernel
theorem dX5_floodBegins_28 : decode cX5_floodBegins 28 = .ok (.aload_n 0, 1) := by decide +kernel
theorem dX5_floodBegins_29 : decode cX5_floodBegins 29 = .ok (.getfield 16, 3) := by decide +kernel
theorem dX5_floodBegins_32 : decode cX5_floodBegins 32 = .ok (.invokevirtual 143, 3) := by decide +kernel
theorem dX5_floodBegins_35 : decode cX5_floodBegins 35 = .ok (.ifCond .eq 5, 3) := by decide +kernel
theorem dX5_floodBegins_38 : decode cX5_floodBegins 38 = .ok (.iconst 1, 1) := by decide +kernel
theorem dX5_floodBegins_39 : decode cX5_floodBegins 39 = .ok (.ireturn, 1) := by decide +kernel
theorem dX5_floodBegins_40 : decode cX5_floodBegins 40 = .ok (.aload_n 0, 1) := by decide +kernel
theorem dX5_floodBegins_41 : decode cX5_floodBegins 41 = .ok (.getfield 16, 3) := by decide +kernel
theorem dX5_floodBegins_44 : decode cX5_floodBegins 44 = .ok (.invokevirtual 71, 3) := by decide +kernel
theorem dX5_floodBegins_47 : decode cX5_floodBegins 47 = .ok (.iload_n 1, 1) := by decide +kernel
theorem dX5_floodBegins_48 : decode cX5_floodBegins 48 = .ok (.iload_n 3, 1) := by decide +kernel
theorem dX5_floodBegins_49 : decode cX5_floodBegins 49 = .ok (.imul, 1) := by decide +kernel
theorem dX5_floodBegins_50 : decode cX5_floodBegins 50 = .ok (.iadd, 1) := by decide +kernel
theorem dX5_floodBegins_51 : decode cX5_floodBegins 51 = .ok (.aload_n 0, 1) := by decide +kernel
theorem dX5_floodBegins_52 : decode cX5_floodBegins 52 = .ok (.getfield 16, 3) := by decide +kernel
theorem dX5_floodBegins_55 : decode cX5_floodBegins 55 = .ok (.invokevirtual 146, 3) := by decide +kernel
theorem dX5_floodBegins_58 : decode cX5_floodBegins 58 = .ok (.if_icmp .ge 5, 3) := by decide +kernel
theorem dX5_floodBegins_61 : decode cX5_floodBegins 61 = .ok (.iconst 0, 1) := by decide +kernel
theorem dX5_floodBegins_62 : decode cX5_floodBegins 62 = .ok (.ireturn, 1) := by decide +kernel
theorem dX5_floodBegins_63 : decode cX5_floodBegins 63 = .ok (.aload_n 0, 1) := by decide +kernel
theorem dX5_floodBegins_64 : decode cX5_floodBegins 64 = .ok (.getfield 16, 3) := by decide +kernel
theorem dX5_floodBegins_67 : decode cX5_floodBegins 67 = .ok (.iconst 1, 1) := by decide +kernel
theorem dX5_floodBegins_68 : decode cX5_floodBegins 68 = .ok (.invokevirtual 67, 3) := by decide +kernel
theorem dX5_floodBegins_71 : decode cX5_floodBegins 71 = .ok (.iinc 3 (-1), 3) := by decide +kernel
theorem dX5_floodBegins_74 : decode cX5_floodBegins 74 = .ok (.goto (-50), 3) := by decide +kernel
theorem dX5_floodBegins_77 : decode cX5_floodBegins 77 = .ok (.iconst 0, 1) := by decide +kernel
theorem dX5_floodBegins_78 : decode cX5_floodBegins 78 = .ok (.ireturn, 1) := by decide +kernel
