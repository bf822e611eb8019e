theorem dX4_value_0 : decode cX4_value 0 = .ok (.aload_n 0, 1) := by decide +kernel
theorem dX4_value_1 : decode cX4_value 1 = .ok (.iload_n 1, 1) := by decide +kernel
theorem dX4_value_2 : decode cX4_value 2 = .ok (.invokevirtual 87, 3) := by decide +kernel
theorem dX4_value_5 : decode cX4_value 5 = .ok (.aload_n 0, 1) := by decide +kernel
theorem dX4_value_6 : decode cX4_value 6 = .ok (.getfield 12, 3) := by decide +kernel
theorem dX4_value_9 : decode cX4_value 9 = .ok (.iload_n 2, 1) := by decide +kernel
theorem dX4_value_10 : decode cX4_value 10 = .ok (.invokevirtual 100, 3) := by decide +kernel
theorem dX4_value_13 : decode cX4_value 13 = .ok (.istore_n 3, 1) := by decide +kernel
theorem dX4_value_14 : decode cX4_value 14 = .ok (.aload_n 0, 1) := by decide +kernel
theorem dX4_value_15 : decode cX4_value 15 = .ok (.getfield 12, 3) := by decide +kernel
theorem dX4_value_18 : decode cX4_value 18 = .ok (.iload_n 1, 1) := by decide +kernel
theorem dX4_value_19 : decode cX4_value 19 = .ok (.iload_n 3, 1) := by decide +kernel
theorem dX4_value_20 : decode cX4_value 20 = .ok (.bipush 64, 2) := by decide +kernel
theorem dX4_value_22 : decode cX4_value 22 = .ok (.idiv, 1) := by decide +kernel
theorem dX4_value_23 : decode cX4_value 23 = .ok (.invokevirtual 103, 3) := by decide +kernel
theorem dX4_value_26 : decode cX4_value 26 = .ok (.iload_n 3, 1) := by decide +kernel
theorem dX4_value_27 : decode cX4_value 27 = .ok (.invokestatic 107, 3) := by decide +kernel
theorem dX4_value_30 : decode cX4_value 30 = .ok (.ireturn, 1) := by decide +kernel
set_option maxRecDepth 20000 in
theorem ggX4_faults_X4_refresh : GoodIn wsX4_faults wsX4_refresh := goodIn_r _ [7, 8, 1, 9, 10, 11, 12, 13, 14, 15, 16, 17, 18, 19, 20, 21, 22, 23, 24, 25, 26, 27, 28, 29, 30, 31, 32, 6, 33, 34, 35, 36, 37, 38, 39, 40, 41, 42, 43, 44, 45, 46, 47, 48, 49, 50, 51, 52, 53, 54, 55, 56, 57, 58, 59, 60, 61, 62, 63, 64, 65, 66, 67, 68, 69, 70, 71, 72, 73, 74, 75, 76, 77, 78, 79, 80, 81, 82, 83, 84, 85, 86, 87, 88, 89, 90] (by decide +kernel) (by decide +kernel)
set_option maxRecDepth 20000 in
theorem gX4_faults_X4_refresh : GoodIn wsX4_faults (wsV RX4 111 RX4 yX4_refresh wsX4_refresh) := goodIn_app (goodIn_of _ (by decide +kernel)) ggX4_faults_X4_refresh
theorem dX4_faults_0 : decode cX4_faults 0 = .ok (.aload_n 0, 1) := by decide +kernel
theorem dX4_faults_1 : decode cX4_faults 1 = .ok (.invokevirtual 111, 3) := by decide +kernel
theorem dX4_faults_4 : decode cX4_faults 4 = .ok (.aload_n 0, 1) := by decide +kernel
theorem dX4_faults_5 : decode cX4_faults 5 = .ok (.getfield 19, 3) := by decide +kernel
theorem dX4_faults_8 : decode cX4_faults 8 = .ok (.getfield 114, 3) := by decide +kernel
theorem dX4_faults_11 : decode cX4_faults 11 = .ok (.ireturn, 1) := by decide +kernel
set_option maxRecDepth 20000 in
theorem ggX4_fault_X4_requireClass : GoodIn wsX4_fault wsX4_requireClass := goodIn_ca (goodIn_r _ [10, 1, 2, 3, 11, 12, 13, 14, 9, 15, 16, 17, 18, 19, 20, 21, 22, 23, 24, 25, 26, 27, 28, 29, 30, 31, 32, 33, 34, 35, 36, 37, 38, 39, 40, 41, 42, 43, 44, 45, 46, 47, 48, 49, 50, 51, 52, 53, 54, 55, 56, 57, 58, 59, 60, 61, 62, 63, 64, 65, 66, 67, 68, 69, 70, 71, 72, 73, 74, 75, 76, 77, 78, 79, 89, 90, 91, 92, 93, 94, 95, 96, 97, 98, 99, 100, 101, 102, 103, 104, 105, 106, 107] (by decide +kernel) (by decide +kernel)) (goodIn_sub (fun _ h => List.mem_cons_of_mem _ (List.mem_append_right _ h)) (by decide +kernel))
set_option maxRecDepth 20000 in
theorem gX4_fault_X4_requireClass : GoodIn wsX4_fault (wsV RX4 117 RX4 yX4_requireClass wsX4_requireClass) := goodIn_app (goodIn_of _ (by decide +kernel)) ggX4_fault_X4_requireClass
set_option maxRecDepth 20000 in
theorem ggX4_fault_X4_netOf : GoodIn wsX4_fault wsX4_netOf := goodIn_r _ [82] (by decide +kernel) (by decide +kernel)
set_option maxRecDepth 20000 in
theorem gX4_fault_X4_netOf : GoodIn wsX4_fault (va_wsS RX4 124 yX4_netOf wsX4_netOf) := goodIn_app (goodIn_of _ (by decide +kernel)) ggX4_fault_X4_netOf
set_option maxRecDepth 20000 in
theorem ggX4_fault_X4_pinOf : GoodIn wsX4_fault wsX4_pinOf := goodIn_r _ [85] (by decide +kernel) (by decide +kernel)
set_option maxRecDepth 20000 in
theorem gX4_fault_X4_pinOf : GoodIn wsX4_fault (va_wsS RX4 127 yX4_pinOf wsX4_pinOf) := goodIn_app (goodIn_of _ (by decide +kernel)) ggX4_fault_X4_pinOf
set_option maxRecDepth 20000 in
theorem ggX4_fault_X4_stuckOf : GoodIn wsX4_fault wsX4_stuckOf := goodIn_r _ [88] (by decide +kernel) (by decide +kernel)
set_option maxRecDepth 20000 in
theorem gX4_fault_X4_stuckOf : GoodIn wsX4_fault (va_wsS RX4 130 yX4_stuckOf wsX4_stuckOf) := goodIn_app (goodIn_of _ (by decide +kernel)) ggX4_fault_X4_stuckOf
theorem dX4_fault_0 : decode cX4_fault 0 = .ok (.aload_n 0, 1) := by decide +kernel
theorem dX4_fault_1 : decode cX4_fault 1 = .ok (.iload_n 1, 1) := by decide +kernel
theorem dX4_fault_2 : decode cX4_fault 2 = .ok (.invokevirtual 117, 3) := by decide +kernel
theorem dX4_fault_5 : decode cX4_fault 5 = .ok (.aload_n 0, 1) := by decide +kernel
theorem dX4_fault_6 : decode cX4_fault 6 = .ok (.getfield 19, 3) := by decide +kernel
theorem dX4_fault_9 : decode cX4_fault 9 = .ok (.getfield 120, 3) := by decide +kernel
theorem dX4_fault_12 : decode cX4_fault 12 = .ok (.iload_n 1, 1) := by decide +kernel
theorem dX4_fault_13 : decode cX4_fault 13 = .ok (.iaload, 1) := by decide +kernel
theorem dX4_fault_14 : decode cX4_fault 14 = .ok (.istore_n 3, 1) := by decide +kernel
theorem dX4_fault_15 : decode cX4_fault 15 = .ok (.iload_n 2, 1) := by decide +kernel
theorem dX4_fault_16 : decode cX4_fault 16 = .ok (.tableswitch 57 0 3 #[32, 37, 42, 47], 32) := by decide +kernel
theorem dX4_fault_48 : decode cX4_fault 48 = .ok (.iload_n 3, 1) := by decide +kernel
theorem dX4_fault_49 : decode cX4_fault 49 = .ok (.invokestatic 124, 3) := by decide +kernel
theorem dX4_fault_52 : decode cX4_fault 52 = .ok (.ireturn, 1) := by decide +kernel
theorem dX4_fault_53 : decode cX4_fault 53 = .ok (.iload_n 3, 1) := by decide +kernel
theorem dX4_fault_54 : decode cX4_fault 54 = .ok (.invokestatic 127, 3) := by decide +kernel
theorem dX4_fault_57 : decode cX4_fault 57 = .ok (.ireturn, 1) := by decide +kernel
theorem dX4_fault_58 : decode cX4_fault 58 = .ok (.iload_n 3, 1) := by decide +kernel
theorem dX4_fault_59 : decode cX4_fault 59 = .ok (.invokestatic 130, 3) := by decide +kernel
theorem dX4_fault_62 : decode cX4_fault 62 = .ok (.ireturn, 1) := by decide +kernel
theorem dX4_fault_63 : decode cX4_fault 63 = .ok (.aload_n 0, 1) := by decide +kernel
theorem dX4_fault_64 : decode cX4_fault 64 = .ok (.getfield 19, 3) := by decide +kernel
theorem dX4_fault_67 : decode cX4_fault 67 = .ok (.getfield 133, 3) := by decide +kernel
theorem dX4_fault_70 : decode cX4_fault 70 = .ok (.iload_n 1, 1) := by decide +kernel
theorem dX4_fault_71 : decode cX4_fault 71 = .ok (.iaload, 1) := by decide +kernel
theorem dX4_fault_72 : decode cX4_fault 72 = .ok (.ireturn, 1) := by decide +kernel
theorem dX4_fault_73 : decode cX4_fault 73 = .ok (.new 71, 3) := by decide +kernel
theorem dX4_fault_76 : decode cX4_fault 76 = .ok (.dup, 1) := by decide +kernel
theorem dX4_fault_77 : decode cX4_fault 77 = .ok (.ldc 136, 2) := by decide +kernel
theorem dX4_fault_79 : decode cX4_fault 79 = .ok (.invokespecial 75, 3) := by decide +kernel
theorem dX4_fault_82 : decode cX4_fault 82 = .ok (.athrow, 1) := by decide +kernel
set_option maxRecDepth 20000 in
theorem ggX4_classOf_X4_requireNet : GoodIn wsX4_classOf wsX4_requireNet := goodIn_ca (goodIn_r _ [10, 1, 2, 3, 11, 12, 13, 14, 15, 16, 88, 89, 90, 91, 92, 99, 100, 101, 102, 103, 104, 105, 106] (by decide +kernel) (by decide +kernel)) (goodIn_sub (fun _ h => List.mem_cons_of_mem _ (List.mem_append_right _ h)) (by decide +kernel))
set_option maxRecDepth 20000 in
theorem gX4_classOf_X4_requireNet : GoodIn wsX4_classOf (wsV RX4 87 RX4 yX4_requireNet wsX4_requireNet) := goodIn_app (goodIn_of _ (by decide +kernel)) ggX4_classOf_X4_requireNet
set_option maxRecDepth 20000 in
theorem ggX4_classOf_X0_pins : GoodIn wsX4_classOf wsX0_pins := goodIn_r _ [20, 21, 22, 9, 23, 99, 100, 101, 102, 103, 104, 105, 106] (by decide +kernel) (by decide +kernel)
set_option maxRecDepth 20000 in
theorem gX4_classOf_X0_pins : GoodIn wsX4_classOf (wsV RX4 138 RX0 yX0_pins wsX0_pins) := goodIn_app (goodIn_of _ (by decide +kernel)) ggX4_classOf_X0_pins
set_option maxRecDepth 20000 in
theorem ggX4_classOf_X4_requireBit : GoodIn wsX4_classOf wsX4_requireBit := goodIn_ca (goodIn_r _ [26, 1, 2] (by decide +kernel) (by decide +kernel)) (goodIn_sub (fun _ h => List.mem_cons_of_mem _ (List.mem_append_right _ h)) (by decide +kernel))
set_option maxRecDepth 20000 in
theorem gX4_classOf_X4_requireBit : GoodIn wsX4_classOf (va_wsS RX4 143 yX4_requireBit wsX4_requireBit) := goodIn_app (goodIn_of _ (by decide +kernel)) ggX4_classOf_X4_requireBit
set_option maxRecDepth 20000 in
theorem ggX4_classOf_X4_refresh : GoodIn wsX4_classOf wsX4_refresh := goodIn_r _ [30, 31, 4, 3, 32, 33, 34, 35, 36, 37, 38, 39, 40, 41, 42, 43, 44, 45, 46, 47, 48, 18, 19, 14, 20, 21, 22, 9, 23, 49, 50, 51, 52, 53, 54, 55, 56, 57, 58, 59, 60, 61, 62, 63, 64, 65, 66, 67, 68, 69, 70, 71, 72, 73, 74, 75, 76, 77, 78, 79, 80, 81, 82, 83, 84, 85, 86, 88, 89, 90, 91, 92, 93, 94, 95, 96, 97, 98, 99, 100, 101, 102, 103, 104, 105, 106] (by decide +kernel) (by decide +kernel)
set_option maxRecDepth 20000 in
theorem gX4_classOf_X4_refresh : GoodIn wsX4_classOf (wsV RX4 111 RX4 yX4_refresh wsX4_refresh) := goodIn_app (goodIn_of _ (by decide +kernel)) ggX4_classOf_X4_refresh
set_option maxRecDepth 20000 in
theorem ggX4_classOf_X4_faultOf : GoodIn wsX4_classOf wsX4_faultOf := goodIn_r _ [71] (by decide +kernel) (by decide +kernel)
set_option maxRecDepth 20000 in
theorem gX4_classOf_X4_faultOf : GoodIn wsX4_classOf (va_wsS RX4 149 yX4_faultOf wsX4_faultOf) := goodIn_app (goodIn_of _ (by decide +kernel)) ggX4_classOf_X4_faultOf
theorem dX4_classOf_0 : decode cX4_classOf 0 = .ok (.aload_n 0, 1) := by decide +kernel
theorem dX4_classOf_1 : decode cX4_classOf 1 = .ok (.iload_n 1, 1) := by decide +kernel
theorem dX4_classOf_2 : decode cX4_classOf 2 = .ok (.invokevirtual 87, 3) := by decide +kernel
theorem dX4_classOf_5 : decode cX4_classOf 5 = .ok (.iload_n 2, 1) := by decide +kernel
theorem dX4_classOf_6 : decode cX4_classOf 6 = .ok (.iconst (-1), 1) := by decide +kernel
theorem dX4_classOf_7 : decode cX4_classOf 7 = .ok (.if_icmp .lt 15, 3) := by decide +kernel
theorem dX4_classOf_10 : decode cX4_classOf 10 = .ok (.iload_n 2, 1) := by decide +kernel
theorem dX4_classOf_11 : decode cX4_classOf 11 = .ok (.aload_n 0, 1) := by decide +kernel
theorem dX4_classOf_12 : decode cX4_classOf 12 = .ok (.getfield 12, 3) := by decide +kernel
theorem dX4_classOf_15 : decode cX4_classOf 15 = .ok (.iload_n 1, 1) := by decide +kernel
theorem dX4_classOf_16 : decode cX4_classOf 16 = .ok (.invokevirtual 138, 3) := by decide +kernel
theorem dX4_classOf_19 : decode cX4_classOf 19 = .ok (.if_icmp .lt 13, 3) := by decide +kernel
theorem dX4_classOf_22 : decode cX4_classOf 22 = .ok (.new 71, 3) := by decide +kernel
theorem dX4_classOf_25 : decode cX4_classOf 25 = .ok (.dup, 1) := by decide +kernel
theorem dX4_classOf_26 : decode cX4_classOf 26 = .ok (.ldc 141, 2) := by decide +kernel
theorem dX4_classOf_28 : decode cX4_classOf 28 = .ok (.invokespecial 75, 3) := by decide +kernel
theorem dX4_classOf_31 : decode cX4_classOf 31 = .ok (.athrow, 1) := by decide +kernel
theorem dX4_classOf_32 : decode cX4_classOf 32 = .ok (.iload_n 3, 1) := by decide +kernel
theorem dX4_classOf_33 : decode cX4_classOf 33 = .ok (.invokestatic 143, 3) := by decide +kernel
theorem dX4_classOf_36 : decode cX4_classOf 36 = .ok (.aload_n 0, 1) := by decide +kernel
theorem dX4_classOf_37 : decode cX4_classOf 37 = .ok (.invokevirtual 111, 3) := by decide +kernel
theorem dX4_classOf_40 : decode cX4_classOf 40 = .ok (.aload_n 0, 1) := by decide +kernel
theorem dX4_classOf_41 : decode cX4_classOf 41 = .ok (.getfield 19, 3) := by decide +kernel
theorem dX4_classOf_44 : decode cX4_classOf 44 = .ok (.getfield 146, 3) := by decide +kernel
theorem dX4_classOf_47 : decode cX4_classOf 47 = .ok (.iload_n 1, 1) := by decide +kernel
theorem dX4_classOf_48 : decode cX4_classOf 48 = .ok (.iload_n 2, 1) := by decide +kernel
theorem dX4_classOf_49 : decode cX4_classOf 49 = .ok (.iload_n 3, 1) := by decide +kernel
theorem dX4_classOf_50 : decode cX4_classOf 50 = .ok (.invokestatic 149, 3) := by decide +kernel
theorem dX4_classOf_53 : decode cX4_classOf 53 = .ok (.iaload, 1) := by decide +kernel
theorem dX4_classOf_54 : decode cX4_classOf 54 = .ok (.ireturn, 1) := by decide +kernel
set_option maxRecDepth 20000 in
theorem ggX4_test_X4_requireClass : GoodIn wsX4_test wsX4_requireClass := goodIn_ca (goodIn_r _ [8, 9, 10, 2, 11, 12, 13, 14, 7, 15, 16, 17, 18, 19, 20, 21, 22, 23, 24, 25, 26, 27, 28, 29, 30, 31, 32, 33, 34, 35, 36, 37, 38, 39, 40, 41, 42, 43, 44, 45, 46, 47, 48, 49, 50, 51, 52, 53, 54, 55, 56, 57, 58, 59, 60, 61, 62, 63, 64, 65, 66, 67, 68, 69, 70, 71, 72, 73, 74, 75, 76, 77, 78, 79, 151, 152, 153, 154, 155, 156, 157, 158, 159, 160, 161, 162, 163, 164, 165, 166, 167, 168, 169] (by decide +kernel) (by decide +kernel)) (goodIn_sub (fun _ h => List.mem_cons_of_mem _ (List.mem_append_right _ h)) (by decide +kernel))
set_option maxRecDepth 20000 in
theorem gX4_test_X4_requireClass : GoodIn wsX4_test (wsV RX4 117 RX4 yX4_requireClass wsX4_requireClass) := goodIn_app (goodIn_of _ (by decide +kernel)) ggX4_test_X4_requireClass
set_option maxRecDepth 20000 in
theorem ggX4_test_X3_least : GoodIn wsX4_test wsX3_least := goodIn_r _ [84, 85, 86, 87, 88, 37, 89, 90, 91, 92, 93, 83, 94, 95, 96, 97, 7, 98, 99, 100, 101, 102, 103, 104, 105, 106, 107, 108, 109, 110, 111, 112, 113, 114, 115, 116, 117, 118, 43, 44, 45, 46, 47, 119, 120, 121, 122, 123, 124, 125, 126, 127, 128, 129, 130, 131, 132, 133, 134, 135, 136, 137, 138, 139, 140, 141, 142, 143, 144, 145, 146, 147, 148, 149, 150, 170, 171, 172, 173, 162, 163, 164, 165, 166, 167, 168, 169] (by decide +kernel) (by decide +kernel)
set_option maxRecDepth 20000 in
theorem gX4_test_X3_least : GoodIn wsX4_test (wsV RX4 152 RX3 yX3_least wsX3_least) := goodIn_app (goodIn_of _ (by decide +kernel)) ggX4_test_X3_least
theorem dX4_test_0 : decode cX4_test 0 = .ok (.aload_n 0, 1) := by decide +kernel
theorem dX4_test_1 : decode cX4_test 1 = .ok (.iload_n 1, 1) := by decide +kernel
theorem dX4_test_2 : decode cX4_test 2 = .ok (.invokevirtual 117, 3) := by decide +kernel
theorem dX4_test_5 : decode cX4_test 5 = .ok (.aload_n 0, 1) := by decide +kernel
theorem dX4_test_6 : decode cX4_test 6 = .ok (.getfield 28, 3) := by decide +kernel
theorem dX4_test_9 : decode cX4_test 9 = .ok (.aload_n 0, 1) := by decide +kernel
theorem dX4_test_10 : decode cX4_test 10 = .ok (.getfield 19, 3) := by decide +kernel
theorem dX4_test_13 : decode cX4_test 13 = .ok (.getfield 120, 3) := by decide +kernel
theorem dX4_test_16 : decode cX4_test 16 = .ok (.iload_n 1, 1) := by decide +kernel
theorem dX4_test_17 : decode cX4_test 17 = .ok (.iaload, 1) := by decide +kernel
theorem dX4_test_18 : decode cX4_test 18 = .ok (.invokevirtual 152, 3) := by decide +kernel
theorem dX4_test_21 : decode cX4_test 21 = .ok (.ireturn, 1) := by decide +kernel
set_option maxRecDepth 20000 in
theorem ggX4_shows_X4_requireClass : GoodIn wsX4_shows wsX4_requireClass := goodIn_ca (goodIn_r _ [9, 10, 11, 2, 12, 13, 14, 15, 8, 16, 17, 4, 18, 19, 20, 21, 22, 23, 24, 25, 26, 27, 28, 29, 30, 31, 32, 33, 34, 35, 36, 37, 38, 39, 40, 41, 42, 43, 44, 45, 46, 47, 48, 49, 50, 51, 52, 53, 54, 55, 56, 57, 58, 59, 60, 61, 62, 63, 64, 65, 66, 67, 68, 69, 70, 71, 72, 73, 74, 75, 76, 77, 78, 79, 148, 149, 150, 151, 152, 153, 154, 155, 156, 157, 158, 159, 160, 161, 162, 163, 164, 165, 166] (by decide +kernel) (by decide +kernel)) (goodIn_sub (fun _ h => List.mem_cons_of_mem _ (List.mem_append_right _ h)) (by decide +kernel))
set_option maxRecDepth 20000 in
theorem gX4_shows_X4_requireClass : GoodIn wsX4_shows (wsV RX4 117 RX4 yX4_requireClass wsX4_requireClass) := goodIn_app (goodIn_of _ (by decide +kernel)) ggX4_shows_X4_requireClass
set_option maxRecDepth 20000 in
theorem ggX4_shows_X0_known : GoodIn wsX4_shows wsX0_known := goodIn_r _ [83, 84, 159, 160, 161, 162, 163, 164, 165, 166] (by decide +kernel) (by decide +kernel)
set_option maxRecDepth 20000 in
theorem gX4_shows_X0_known : GoodIn wsX4_shows (wsV RX4 100 RX0 yX0_known wsX0_known) := goodIn_app (goodIn_of _ (by decide +kernel)) ggX4_shows_X0_known
set_option maxRecDepth 20000 in
theorem ggX4_shows_X3_isSeen : GoodIn wsX4_shows wsX3_isSeen := goodIn_r _ [89, 90, 91, 92, 88, 93, 94, 95, 96, 97, 8, 98, 99, 100, 101, 102, 103, 104, 105, 37, 106, 84, 107, 108, 109, 110, 111, 112, 113, 114, 115, 116, 117, 118, 119, 120, 121, 122, 43, 44, 45, 46, 47, 123, 124, 125, 126, 127, 128, 129, 130, 131, 132, 133, 134, 135, 136, 137, 138, 139, 140, 141, 142, 143, 144, 145, 146, 147, 167, 168, 169, 170, 159, 160, 161, 162, 163, 164, 165, 166] (by decide +kernel) (by decide +kernel)
set_option maxRecDepth 20000 in
theorem gX4_shows_X3_isSeen : GoodIn wsX4_shows (wsV RX4 155 RX3 yX3_isSeen wsX3_isSeen) := goodIn_app (goodIn_of _ (by decide +kernel)) ggX4_shows_X3_isSeen
theorem dX4_shows_0 : decode cX4_shows 0 = .ok (.aload_n 0, 1) := by decide +kernel
theorem dX4_shows_1 : decode cX4_shows 1 = .ok (.iload_n 2, 1) := by decide +kernel
theorem dX4_shows_2 : decode cX4_shows 2 = .ok (.invokevirtual 117, 3) := by decide +kernel
theorem dX4_shows_5 : decode cX4_shows 5 = .ok (.aload_n 0, 1) := by decide +kernel
theorem dX4_shows_6 : decode cX4_shows 6 = .ok (.getfield 28, 3) := by decide +kernel
theorem dX4_shows_9 : decode cX4_shows 9 = .ok (.aload_n 0, 1) := by decide +kernel
theorem dX4_shows_10 : decode cX4_shows 10 = .ok (.getfield 19, 3) := by decide +kernel
theorem dX4_shows_13 : decode cX4_shows 13 = .ok (.getfield 120, 3) := by decide +kernel
theorem dX4_shows_16 : decode cX4_shows 16 = .ok (.iload_n 2, 1) := by decide +kernel
theorem dX4_shows_17 : decode cX4_shows 17 = .ok (.iaload, 1) := by decide +kernel
theorem dX4_shows_18 : decode cX4_shows 18 = .ok (.aload_n 0, 1) := by decide +kernel
theorem dX4_shows_19 : decode cX4_shows 19 = .ok (.getfield 12, 3) := by decide +kernel
theorem dX4_shows_22 : decode cX4_shows 22 = .ok (.iload_n 1, 1) := by decide +kernel
theorem dX4_shows_23 : decode cX4_shows 23 = .ok (.invokevirtual 100, 3) := by decide +kernel
theorem dX4_shows_26 : decode cX4_shows 26 = .ok (.invokevirtual 155, 3) := by decide +kernel
theorem dX4_shows_29 : decode cX4_shows 29 = .ok (.ireturn, 1) := by decide +kernel
set_option maxRecDepth 20000 in
theorem ggX4_shown_X4_requireClass : GoodIn wsX4_shown wsX4_requireClass := goodIn_ca (goodIn_r _ [8, 9, 10, 2, 11, 12, 13, 14, 7, 15, 16, 17, 18, 19, 20, 21, 22, 23, 24, 25, 26, 27, 28, 29, 30, 31, 32, 33, 34, 35, 36, 37, 38, 39, 40, 41, 42, 43, 44, 45, 46, 47, 48, 49, 50, 51, 52, 53, 54, 55, 56, 57, 58, 59, 60, 61, 62, 63, 64, 65, 66, 67, 68, 69, 70, 71, 72, 73, 74, 75, 76, 77, 78, 79, 149, 150, 151, 152, 153, 154, 155, 156, 157, 158, 159, 160, 161, 162, 163, 164, 165, 166, 167] (by decide +kernel) (by decide +kernel)) (goodIn_sub (fun _ h => List.mem_cons_of_mem _ (List.mem_append_right _ h)) (by decide +kernel))
set_option maxRecDepth 20000 in
theorem gX4_shown_X4_requireClass : GoodIn wsX4_shown (wsV RX4 117 RX4 yX4_requireClass wsX4_requireClass) := goodIn_app (goodIn_of _ (by decide +kernel)) ggX4_shown_X4_requireClass
set_option maxRecDepth 20000 in
theorem ggX4_shown_X3_howMany : GoodIn wsX4_shown wsX3_howMany := goodIn_r _ [84, 85, 86, 87, 88, 37, 89, 90, 91, 92, 93, 83, 94, 95, 96, 97, 7, 98, 99, 100, 101, 102, 103, 104, 105, 106, 107, 108, 109, 110, 111, 112, 113, 114, 115, 116, 117, 118, 43, 44, 45, 46, 47, 119, 120, 121, 122, 123, 124, 125, 126, 127, 128, 129, 130, 131, 132, 133, 134, 135, 136, 137, 138, 139, 140, 141, 142, 143, 144, 145, 146, 147, 148, 168, 169, 170, 171, 160, 161, 162, 163, 164, 165, 166, 167] (by decide +kernel) (by decide +kernel)
set_option maxRecDepth 20000 in
theorem gX4_shown_X3_howMany : GoodIn wsX4_shown (wsV RX4 159 RX3 yX3_howMany wsX3_howMany) := goodIn_app (goodIn_of _ (by decide +kernel)) ggX4_shown_X3_howMany
theorem dX4_shown_0 : decode cX4_shown 0 = .ok (.aload_n 0, 1) := by decide +kernel
theorem dX4_shown_1 : decode cX4_shown 1 = .ok (.iload_n 1, 1) := by decide +kernel
theorem dX4_shown_2 : decode cX4_shown 2 = .ok (.invokevirtual 117, 3) := by decide +kernel
theorem dX4_shown_5 : decode cX4_shown 5 = .ok (.aload_n 0, 1) := by decide +kernel
theorem dX4_shown_6 : decode cX4_shown 6 = .ok (.getfield 28, 3) := by decide +kernel
theorem dX4_shown_9 : decode cX4_shown 9 = .ok (.aload_n 0, 1) := by decide +kernel
theorem dX4_shown_10 : decode cX4_shown 10 = .ok (.getfield 19, 3) := by decide +kernel
theorem dX4_shown_13 : decode cX4_shown 13 = .ok (.getfield 120, 3) := by decide +kernel
theorem dX4_shown_16 : decode cX4_shown 16 = .ok (.iload_n 1, 1) := by decide +kernel
theorem dX4_shown_17 : decode cX4_shown 17 = .ok (.iaload, 1) := by decide +kernel
theorem dX4_shown_18 : decode cX4_shown 18 = .ok (.invokevirtual 159, 3) := by decide +kernel
theorem dX4_shown_21 : decode cX4_shown 21 = .ok (.ireturn, 1) := by decide +kernel
set_option maxRecDepth 20000 in
theorem ggX4_run_X4_refresh : GoodIn wsX4_run wsX4_refresh := goodIn_r _ [12, 13, 3, 14, 15, 16, 17, 18, 19, 20, 21, 22, 23, 24, 25, 26, 27, 28, 29, 30, 31, 32, 33, 34, 35, 36, 37, 11, 38, 39, 40, 41, 42, 43, 44, 45, 46, 47, 48, 49, 50, 51, 52, 53, 54, 55, 56, 57, 58, 59, 60, 61, 62, 63, 64, 65, 66, 67, 68, 69, 70, 71, 72, 73, 74, 75, 76, 170, 171, 172, 173, 174, 179, 180, 181, 182, 183, 184, 185, 186, 187, 188, 189, 190, 191, 192] (by decide +kernel) (by decide +kernel)
set_option maxRecDepth 20000 in
theorem gX4_run_X4_refresh : GoodIn wsX4_run (wsV RX4 111 RX4 yX4_refresh wsX4_refresh) := goodIn_app (goodIn_of _ (by decide +kernel)) ggX4_run_X4_refresh
set_option maxRecDepth 20000 in
theorem ggX4_run_X3_least : GoodIn wsX4_run wsX3_least := goodIn_r _ [81, 82, 83, 84, 85, 34, 86, 87, 88, 89, 90, 80, 91, 92, 93, 94, 11, 95, 96, 97, 98, 99, 100, 101, 102, 103, 104, 105, 106, 107, 108, 109, 110, 111, 112, 113, 114, 115, 40, 41, 42, 43, 44, 116, 117, 118, 119, 120, 121, 122, 123, 124, 125, 126, 127, 128, 129, 130, 131, 132, 133, 134, 135, 136, 137, 138, 139, 140, 141, 142, 143, 144, 145, 146, 147, 193, 194, 195, 196, 185, 186, 187, 188, 189, 190, 191, 192] (by decide +kernel) (by decide +kernel)
set_option maxRecDepth 20000 in
theorem gX4_run_X3_least : GoodIn wsX4_run (wsV RX4 152 RX3 yX3_least wsX3_least) := goodIn_app (goodIn_of _ (by decide +kernel)) ggX4_run_X3_least
set_option maxRecDepth 20000 in
theorem ggX4_run_X2_hasRoom : GoodIn wsX4_run wsX2_hasRoom := goodIn_r _ [152, 153, 175, 176, 177, 178] (by decide +kernel) (by decide +kernel)
set_option maxRecDepth 20000 in
theorem gX4_run_X2_hasRoom : GoodIn wsX4_run (wsV RX4 169 RX2 yX2_hasRoom wsX2_hasRoom) := goodIn_app (goodIn_of _ (by decide +kernel)) ggX4_run_X2_hasRoom
set_option maxRecDepth 20000 in
theorem ggX4_run_X2_addTest : GoodIn wsX4_run wsX2_addTest := goodIn_r _ [157, 158, 153, 175, 176, 177, 178] (by decide +kernel) (by decide +kernel)
set_option maxRecDepth 20000 in
theorem gX4_run_X2_addTest : GoodIn wsX4_run (wsV RX4 173 RX2 yX2_addTest wsX2_addTest) := goodIn_app (goodIn_of _ (by decide +kernel)) ggX4_run_X2_addTest
set_option maxRecDepth 20000 in
theorem ggX4_run_X4_findBy : GoodIn wsX4_run wsX4_findBy := goodIn_r _ [162, 3, 4, 1, 5, 6, 7, 163, 164, 165, 166, 80, 167, 88, 89, 90, 91, 92, 82, 93, 94, 11, 95, 96, 97, 98, 99, 83, 84, 85, 34, 86, 87, 100, 101, 102, 103, 104, 105, 106, 107, 108, 109, 110, 111, 112, 113, 114, 115, 40, 41, 42, 43, 44, 116, 117, 118, 119, 120, 121, 122, 123, 124, 125, 126, 127, 128, 129, 130, 131, 132, 133, 134, 135, 136, 137, 138, 168, 169, 170, 171, 172, 173, 174, 179, 180, 181, 182, 183, 184, 175, 176, 177, 178, 193, 194, 195, 196, 185, 186, 187, 188, 189, 190, 191, 192] (by decide +kernel) (by decide +kernel)
set_option maxRecDepth 20000 in
theorem gX4_run_X4_findBy : GoodIn wsX4_run (wsV RX4 176 RX4 yX4_findBy wsX4_findBy) := goodIn_app (goodIn_of _ (by decide +kernel)) ggX4_run_X4_findBy
theorem dX4_run_0 : decode cX4_run 0 = .ok (.aload_n 0, 1) := by decide +kernel
theorem dX4_run_1 : decode cX4_run 1 = .ok (.invokevirtual 111, 3) := by decide +kernel
theorem dX4_run_4 : decode cX4_run 4 = .ok (.aload_n 0, 1) := by decide +kernel
theorem dX4_run_5 : decode cX4_run 5 = .ok (.getfield 35, 3) := by decide +kernel
theorem dX4_run_8 : decode cX4_run 8 = .ok (.iconst 0, 1) := by decide +kernel
theorem dX4_run_9 : decode cX4_run 9 = .ok (.putfield 162, 3) := by decide +kernel
theorem dX4_run_12 : decode cX4_run 12 = .ok (.iconst 0, 1) := by decide +kernel
theorem dX4_run_13 : decode cX4_run 13 = .ok (.istore_n 1, 1) := by decide +kernel
theorem dX4_run_14 : decode cX4_run 14 = .ok (.iload_n 1, 1) := by decide +kernel
theorem dX4_run_15 : decode cX4_run 15 = .ok (.aload_n 0, 1) := by decide +kernel
theorem dX4_run_16 : decode cX4_run 16 = .ok (.getfield 19, 3) := by decide +kernel
theorem dX4_run_19 : decode cX4_run 19 = .ok (.getfield 114, 3) := by decide +kernel
theorem dX4_run_22 : decode cX4_run 22 = .ok (.if_icmp .ge 71, 3) := by decide +kernel
theorem dX4_run_25 : decode cX4_run 25 = .ok (.aload_n 0, 1) := by decide +kernel
theorem dX4_run_26 : decode cX4_run 26 = .ok (.getfield 35, 3) := by decide +kernel
theorem dX4_run_29 : decode cX4_run 29 = .ok (.getfield 165, 3) := by decide +kernel
theorem dX4_run_32 : decode cX4_run 32 = .ok (.iload_n 1, 1) := by decide +kernel
theorem dX4_run_33 : decode cX4_run 33 = .ok (.baload, 1) := by decide +kernel
theorem dX4_run_34 : decode cX4_run 34 = .ok (.ifCond .eq 7, 3) := by decide +kernel
theorem dX4_run_37 : decode cX4_run 37 = .ok (.iconst (-1), 1) := by decide +kernel
theorem dX4_run_38 : decode cX4_run 38 = .ok (.goto 19, 3) := by decide +kernel
theorem dX4_run_41 : decode cX4_run 41 = .ok (.aload_n 0, 1) := by decide +kernel
theorem dX4_run_42 : decode cX4_run 42 = .ok (.getfield 28, 3) := by decide +kernel
theorem dX4_run_45 : decode cX4_run 45 = .ok (.aload_n 0, 1) := by decide +kernel
theorem dX4_run_46 : decode cX4_run 46 = .ok (.getfield 19, 3) := by decide +kernel
theorem dX4_run_49 : decode cX4_run 49 = .ok (.getfield 120, 3) := by decide +kernel
theorem dX4_run_52 : decode cX4_run 52 = .ok (.iload_n 1, 1) := by decide +kernel
theorem dX4_run_53 : decode cX4_run 53 = .ok (.iaload, 1) := by decide +kernel
theorem dX4_run_54 : decode cX4_run 54 = .ok (.invokevirtual 152, 3) := by decide +kernel
theorem dX4_run_57 : decode cX4_run 57 = .ok (.istore_n 2, 1) := by decide +kernel
theorem dX4_run_58 : decode cX4_run 58 = .ok (.iload_n 2, 1) := by decide +kernel
theorem dX4_run_59 : decode cX4_run 59 = .ok (.iconst (-1), 1) := by decide +kernel
theorem dX4_run_60 : decode cX4_run 60 = .ok (.if_icmp .eq 27, 3) := by decide +kernel
theorem dX4_run_63 : decode cX4_run 63 = .ok (.aload_n 0, 1) := by decide +kernel
theorem dX4_run_64 : decode cX4_run 64 = .ok (.getfield 35, 3) := by decide +kernel
theorem dX4_run_67 : decode cX4_run 67 = .ok (.invokevirtual 169, 3) := by decide +kernel
theorem dX4_run_70 : decode cX4_run 70 = .ok (.ifCond .eq 17, 3) := by decide +kernel
theorem dX4_run_73 : decode cX4_run 73 = .ok (.aload_n 0, 1) := by decide +kernel
theorem dX4_run_74 : decode cX4_run 74 = .ok (.getfield 35, 3) := by decide +kernel
theorem dX4_run_77 : decode cX4_run 77 = .ok (.iload_n 2, 1) := by decide +kernel
theorem dX4_run_78 : decode cX4_run 78 = .ok (.invokevirtual 173, 3) := by decide +kernel
theorem dX4_run_81 : decode cX4_run 81 = .ok (.aload_n 0, 1) := by decide +kernel
theorem dX4_run_82 : decode cX4_run 82 = .ok (.iload_n 2, 1) := by decide +kernel
theorem dX4_run_83 : decode cX4_run 83 = .ok (.invokevirtual 176, 3) := by decide +kernel
theorem dX4_run_86 : decode cX4_run 86 = .ok (.pop, 1) := by decide +kernel
theorem dX4_run_87 : decode cX4_run 87 = .ok (.iinc 1 1, 3) := by decide +kernel
theorem dX4_run_90 : decode cX4_run 90 = .ok (.goto (-76), 3) := by decide +kernel
theorem dX4_run_93 : decode cX4_run 93 = .ok (.aload_n 0, 1) := by decide +kernel
theorem dX4_run_94 : decode cX4_run 94 = .ok (.getfield 35, 3) := by decide +kernel
theorem dX4_run_97 : decode cX4_run 97 = .ok (.getfield 162, 3) := by decide +kernel
theorem dX4_run_100 : decode cX4_run 100 = .ok (.ireturn, 1) := by decide +kernel
theorem dX4_pattern_0 : decode cX4_pattern 0 = .ok (.iload_n 1, 1) := by decide +kernel
theorem dX4_pattern_1 : decode cX4_pattern 1 = .ok (.ifCond .lt 14, 3) := by decide +kernel
theorem dX4_pattern_4 : decode cX4_pattern 4 = .ok (.iload_n 1, 1) := by decide +kernel
theorem dX4_pattern_5 : decode cX4_pattern 5 = .ok (.aload_n 0, 1) := by decide +kernel
theorem dX4_pattern_6 : decode cX4_pattern 6 = .ok (.getfield 35, 3) := by decide +kernel
theorem dX4_pattern_9 : decode cX4_pattern 9 = .ok (.getfield 162, 3) := by decide +kernel
theorem dX4_pattern_12 : decode cX4_pattern 12 = .ok (.if_icmp .lt 13, 3) := by decide +kernel
theorem dX4_pattern_15 : decode cX4_pattern 15 = .ok (.new 71, 3) := by decide +kernel
theorem dX4_pattern_18 : decode cX4_pattern 18 = .ok (.dup, 1) := by decide +kernel
theorem dX4_pattern_19 : decode cX4_pattern 19 = .ok (.ldc 179, 2) := by decide +kernel
theorem dX4_pattern_21 : decode cX4_pattern 21 = .ok (.invokespecial 75, 3) := by decide +kernel
theorem dX4_pattern_24 : decode cX4_pattern 24 = .ok (.athrow, 1) := by decide +kernel
theorem dX4_pattern_25 : decode cX4_pattern 25 = .ok (.aload_n 0, 1) := by decide +kernel
theorem dX4_pattern_26 : decode cX4_pattern 26 = .ok (.getfield 35, 3) := by decide +kernel
theorem dX4_pattern_29 : decode cX4_pattern 29 = .ok (.getfield 181, 3) := by decide +kernel
theorem dX4_pattern_32 : decode cX4_pattern 32 = .ok (.iload_n 1, 1) := by decide +kernel
theorem dX4_pattern_33 : decode cX4_pattern 33 = .ok (.iaload, 1) := by decide +kernel
theorem dX4_pattern_34 : decode cX4_pattern 34 = .ok (.ireturn, 1) := by decide +kernel
set_option maxRecDepth 20000 in
theorem ggX4_simulate_X4_refresh : GoodIn wsX4_simulate wsX4_refresh := goodIn_r _ [6, 7, 8, 1, 9, 10, 11, 12, 13, 14, 15, 16, 17, 18, 19, 20, 21, 22, 23, 24, 25, 26, 27, 28, 29, 30, 31, 5, 32, 33, 34, 35, 36, 37, 38, 39, 40, 41, 42, 43, 44, 45, 46, 47, 48, 49, 50, 51, 52, 53, 54, 55, 56, 57, 58, 59, 60, 61, 62, 63, 64, 65, 66, 67, 68, 69, 70, 149, 150, 151, 152, 153, 154, 155, 156, 157, 158, 159, 160, 161, 162, 163, 164, 165, 166, 167] (by decide +kernel) (by decide +kernel)
set_option maxRecDepth 20000 in
theorem gX4_simulate_X4_refresh : GoodIn wsX4_simulate (wsV RX4 111 RX4 yX4_refresh wsX4_refresh) := goodIn_app (goodIn_of _ (by decide +kernel)) ggX4_simulate_X4_refresh
set_option maxRecDepth 20000 in
theorem ggX4_simulate_X0_known : GoodIn wsX4_simulate wsX0_known := goodIn_r _ [74, 75, 160, 161, 162, 163, 164, 165, 166, 167] (by decide +kernel) (by decide +kernel)
set_option maxRecDepth 20000 in
theorem gX4_simulate_X0_known : GoodIn wsX4_simulate (wsV RX4 100 RX0 yX0_known wsX0_known) := goodIn_app (goodIn_of _ (by decide +kernel)) ggX4_simulate_X0_known
set_option maxRecDepth 20000 in
theorem ggX4_simulate_X4_findBy : GoodIn wsX4_simulate wsX4_findBy := goodIn_r _ [79, 8, 80, 81, 82, 83, 84, 85, 86, 87, 88, 89, 90, 91, 92, 93, 94, 95, 96, 97, 98, 5, 99, 100, 101, 102, 103, 104, 105, 106, 28, 107, 75, 108, 109, 110, 111, 112, 113, 114, 115, 116, 117, 118, 119, 120, 121, 122, 123, 34, 35, 36, 37, 38, 124, 125, 126, 127, 128, 129, 130, 131, 132, 133, 134, 135, 136, 137, 138, 139, 140, 141, 142, 143, 144, 145, 146, 147, 148, 149, 150, 151, 152, 153, 154, 155, 156, 157, 158, 159, 168, 169, 170, 171, 172, 173, 174, 175, 160, 161, 162, 163, 164, 165, 166, 167] (by decide +kernel) (by decide +kernel)
set_option maxRecDepth 20000 in
theorem gX4_simulate_X4_findBy : GoodIn wsX4_simulate (wsV RX4 176 RX4 yX4_findBy wsX4_findBy) := goodIn_app (goodIn_of _ (by decide +kernel)) ggX4_simulate_X4_findBy
theorem dX4_simulate_0 : decode cX4_simulate 0 = .ok (.aload_n 0, 1) := by decide +kernel
theorem dX4_simulate_1 : decode cX4_simulate 1 = .ok (.invokevirtual 111, 3) := by decide +kernel
theorem dX4_simulate_4 : decode cX4_simulate 4 = .ok (.aload_n 0, 1) := by decide +kernel
theorem dX4_simulate_5 : decode cX4_simulate 5 = .ok (.aload_n 0, 1) := by decide +kernel
theorem dX4_simulate_6 : decode cX4_simulate 6 = .ok (.getfield 12, 3) := by decide +kernel
theorem dX4_simulate_9 : decode cX4_simulate 9 = .ok (.iload_n 1, 1) := by decide +kernel
theorem dX4_simulate_10 : decode cX4_simulate 10 = .ok (.invokevirtual 100, 3) := by decide +kernel
theorem dX4_simulate_13 : decode cX4_simulate 13 = .ok (.invokevirtual 176, 3) := by decide +kernel
theorem dX4_simulate_16 : decode cX4_simulate 16 = .ok (.ireturn, 1) := by decide +kernel
set_option maxRecDepth 20000 in
theorem ggX4_left_X4_refresh : GoodIn wsX4_left wsX4_refresh := goodIn_r _ [10, 11, 4, 12, 13, 14, 15, 16, 17, 18, 19, 20, 21, 22, 23, 24, 25, 26, 27, 28, 29, 30, 31, 32, 33, 34, 35, 9, 36, 37, 38, 39, 40, 41, 42, 43, 44, 45, 46, 47, 48, 49, 50, 51, 52, 53, 54, 55, 56, 57, 58, 59, 60, 61, 62, 63, 64, 65, 66, 67, 68, 69, 70, 71, 72, 73, 74, 81, 82, 83, 84, 85, 86, 87, 88, 89, 90, 91, 92, 93, 94, 95, 96, 97, 98, 99] (by decide +kernel) (by decide +kernel)
set_option maxRecDepth 20000 in
theorem gX4_left_X4_refresh : GoodIn wsX4_left (wsV RX4 111 RX4 yX4_refresh wsX4_refresh) := goodIn_app (goodIn_of _ (by decide +kernel)) ggX4_left_X4_refresh
set_option maxRecDepth 20000 in
theorem ggX4_left_X2_missing : GoodIn wsX4_left wsX2_missing := goodIn_r _ [79, 80, 100, 101, 102, 103] (by decide +kernel) (by decide +kernel)
set_option maxRecDepth 20000 in
theorem gX4_left_X2_missing : GoodIn wsX4_left (wsV RX4 186 RX2 yX2_missing wsX2_missing) := goodIn_app (goodIn_of _ (by decide +kernel)) ggX4_left_X2_missing
theorem dX4_left_0 : decode cX4_left 0 = .ok (.iload_n 1, 1) := by decide +kernel
theorem dX4_left_1 : decode cX4_left 1 = .ok (.ifCond .ge 13, 3) := by decide +kernel
theorem dX4_left_4 : decode cX4_left 4 = .ok (.new 71, 3) := by decide +kernel
theorem dX4_left_7 : decode cX4_left 7 = .ok (.dup, 1) := by decide +kernel
theorem dX4_left_8 : decode cX4_left 8 = .ok (.ldc 184, 2) := by decide +kernel
theorem dX4_left_10 : decode cX4_left 10 = .ok (.invokespecial 75, 3) := by decide +kernel
theorem dX4_left_13 : decode cX4_left 13 = .ok (.athrow, 1) := by decide +kernel
theorem dX4_left_14 : decode cX4_left 14 = .ok (.aload_n 0, 1) := by decide +kernel
theorem dX4_left_15 : decode cX4_left 15 = .ok (.invokevirtual 111, 3) := by decide +kernel
theorem dX4_left_18 : decode cX4_left 18 = .ok (.aload_n 0, 1) := by decide +kernel
theorem dX4_left_19 : decode cX4_left 19 = .ok (.getfield 35, 3) := by decide +kernel
theorem dX4_left_22 : decode cX4_left 22 = .ok (.iload_n 1, 1) := by decide +kernel
theorem dX4_left_23 : decode cX4_left 23 = .ok (.aload_n 0, 1) := by decide +kernel
theorem dX4_left_24 : decode cX4_left 24 = .ok (.getfield 19, 3) := by decide +kernel
theorem dX4_left_27 : decode cX4_left 27 = .ok (.getfield 114, 3) := by decide +kernel
theorem dX4_left_30 : decode cX4_left 30 = .ok (.invokevirtual 186, 3) := by decide +kernel
theorem dX4_left_33 : decode cX4_left 33 = .ok (.ireturn, 1) := by decide +kernel
set_option maxRecDepth 20000 in
theorem ggX4_reset_X2_forgetFound : GoodIn wsX4_reset wsX2_forgetFound := goodIn_r _ [6, 7, 8, 14, 15, 16, 17] (by decide +kernel) (by decide +kernel)
set_option maxRecDepth 20000 in
theorem gX4_reset_X2_forgetFound : GoodIn wsX4_reset (wsV RX4 190 RX2 yX2_forgetFound wsX2_forgetFound) := goodIn_app (goodIn_of _ (by decide +kernel)) ggX4_reset_X2_forgetFound
theorem dX4_reset_0 : decode cX4_reset 0 = .ok (.aload_n 0, 1) := by decide +kernel
theorem dX4_reset_1 : decode cX4_reset 1 = .ok (.getfield 35, 3) := by decide +kernel
theorem dX4_reset_4 : decode cX4_reset 4 = .ok (.invokevirtual 190, 3) := by decide +kernel
theorem dX4_reset_7 : decode cX4_reset 7 = .ok (.return_, 1) := by decide +kernel
set_option maxRecDepth 20000 in
theorem ggX4_slow_X4_requireNet : GoodIn wsX4_slow wsX4_requireNet := goodIn_ca (goodIn_r _ [7, 8, 9, 2, 10, 11, 12, 13, 14, 15, 105, 106, 107, 108, 109, 110, 111, 112, 113, 114, 115, 116, 117] (by decide +kernel) (by decide +kernel)) (goodIn_sub (fun _ h => List.mem_cons_of_mem _ (List.mem_append_right _ h)) (by decide +kernel))
set_option maxRecDepth 20000 in
theorem gX4_slow_X4_requireNet : GoodIn wsX4_slow (wsV RX4 87 RX4 yX4_requireNet wsX4_requireNet) := goodIn_app (goodIn_of _ (by decide +kernel)) ggX4_slow_X4_requireNet
set_option maxRecDepth 20000 in
theorem ggX4_slow_X4_requireBit : GoodIn wsX4_slow wsX4_requireBit := goodIn_ca (goodIn_r _ [18, 8, 9] (by decide +kernel) (by decide +kernel)) (goodIn_sub (fun _ h => List.mem_cons_of_mem _ (List.mem_append_right _ h)) (by decide +kernel))
set_option maxRecDepth 20000 in
theorem gX4_slow_X4_requireBit : GoodIn wsX4_slow (va_wsS RX4 143 yX4_requireBit wsX4_requireBit) := goodIn_app (goodIn_of _ (by decide +kernel)) ggX4_slow_X4_requireBit
set_option maxRecDepth 20000 in
theorem ggX4_slow_X4_faultOf : GoodIn wsX4_slow wsX4_faultOf := goodIn_r _ [21] (by decide +kernel) (by decide +kernel)
set_option maxRecDepth 20000 in
theorem gX4_slow_X4_faultOf : GoodIn wsX4_slow (va_wsS RX4 149 yX4_faultOf wsX4_faultOf) := goodIn_app (goodIn_of _ (by decide +kernel)) ggX4_slow_X4_faultOf
set_option maxRecDepth 20000 in
theorem ggX4_slow_X3_least : GoodIn wsX4_slow wsX3_least := goodIn_r _ [26, 27, 28, 29, 30, 13, 31, 32, 33, 34, 35, 25, 36, 37, 38, 39, 6, 40, 41, 42, 43, 44, 45, 46, 47, 48, 49, 50, 51, 52, 53, 54, 55, 56, 57, 58, 59, 60, 61, 62, 63, 64, 65, 66, 67, 68, 69, 70, 71, 72, 73, 74, 75, 76, 77, 78, 79, 80, 81, 82, 83, 84, 85, 86, 87, 88, 89, 90, 91, 92, 93, 94, 95, 96, 97, 118, 119, 120, 121, 110, 111, 112, 113, 114, 115, 116, 117] (by decide +kernel) (by decide +kernel)
set_option maxRecDepth 20000 in
theorem gX4_slow_X3_least : GoodIn wsX4_slow (wsV RX4 152 RX3 yX3_least wsX3_least) := goodIn_app (goodIn_of _ (by decide +kernel)) ggX4_slow_X3_least
set_option maxRecDepth 20000 in
theorem ggX4_slow_X0_leastWith : GoodIn wsX4_slow wsX0_leastWith := goodIn_r _ [101, 88, 102, 29, 30, 13, 31, 32, 103, 70, 71, 72, 73, 82, 6, 83, 68, 104, 85, 86, 87, 89, 90, 91, 92, 93, 94, 95, 96, 97, 110, 111, 112, 113, 114, 115, 116, 117] (by decide +kernel) (by decide +kernel)
set_option maxRecDepth 20000 in
theorem gX4_slow_X0_leastWith : GoodIn wsX4_slow (wsV RX4 193 RX0 yX0_leastWith wsX0_leastWith) := goodIn_app (goodIn_of _ (by decide +kernel)) ggX4_slow_X0_leastWith
theorem dX4_slow_0 : decode cX4_slow 0 = .ok (.aload_n 0, 1) := by decide +kernel
theorem dX4_slow_1 : decode cX4_slow 1 = .ok (.iload_n 1, 1) := by decide +kernel
theorem dX4_slow_2 : decode cX4_slow 2 = .ok (.invokevirtual 87, 3) := by decide +kernel
theorem dX4_slow_5 : decode cX4_slow 5 = .ok (.iload_n 2, 1) := by decide +kernel
theorem dX4_slow_6 : decode cX4_slow 6 = .ok (.invokestatic 143, 3) := by decide +kernel
theorem dX4_slow_9 : decode cX4_slow 9 = .ok (.iload_n 3, 1) := by decide +kernel
theorem dX4_slow_10 : decode cX4_slow 10 = .ok (.invokestatic 143, 3) := by decide +kernel
theorem dX4_slow_13 : decode cX4_slow 13 = .ok (.aload_n 0, 1) := by decide +kernel
theorem dX4_slow_14 : decode cX4_slow 14 = .ok (.getfield 28, 3) := by decide +kernel
theorem dX4_slow_17 : decode cX4_slow 17 = .ok (.iload_n 1, 1) := by decide +kernel
theorem dX4_slow_18 : decode cX4_slow 18 = .ok (.iconst (-1), 1) := by decide +kernel
theorem dX4_slow_19 : decode cX4_slow 19 = .ok (.iconst 1, 1) := by decide +kernel
theorem dX4_slow_20 : decode cX4_slow 20 = .ok (.iload_n 2, 1) := by decide +kernel
theorem dX4_slow_21 : decode cX4_slow 21 = .ok (.isub, 1) := by decide +kernel
theorem dX4_slow_22 : decode cX4_slow 22 = .ok (.invokestatic 149, 3) := by decide +kernel
theorem dX4_slow_25 : decode cX4_slow 25 = .ok (.invokevirtual 152, 3) := by decide +kernel
theorem dX4_slow_28 : decode cX4_slow 28 = .ok (.istore 4, 2) := by decide +kernel
theorem dX4_slow_30 : decode cX4_slow 30 = .ok (.aload_n 0, 1) := by decide +kernel
theorem dX4_slow_31 : decode cX4_slow 31 = .ok (.getfield 12, 3) := by decide +kernel
theorem dX4_slow_34 : decode cX4_slow 34 = .ok (.iload_n 1, 1) := by decide +kernel
theorem dX4_slow_35 : decode cX4_slow 35 = .ok (.iconst 1, 1) := by decide +kernel
theorem dX4_slow_36 : decode cX4_slow 36 = .ok (.iload_n 2, 1) := by decide +kernel
theorem dX4_slow_37 : decode cX4_slow 37 = .ok (.isub, 1) := by decide +kernel
theorem dX4_slow_38 : decode cX4_slow 38 = .ok (.invokevirtual 193, 3) := by decide +kernel
theorem dX4_slow_41 : decode cX4_slow 41 = .ok (.istore 5, 2) := by decide +kernel
theorem dX4_slow_43 : decode cX4_slow 43 = .ok (.iload 4, 2) := by decide +kernel
theorem dX4_slow_45 : decode cX4_slow 45 = .ok (.iconst (-1), 1) := by decide +kernel
theorem dX4_slow_46 : decode cX4_slow 46 = .ok (.if_icmp .eq 9, 3) := by decide +kernel
theorem dX4_slow_49 : decode cX4_slow 49 = .ok (.iload 5, 2) := by decide +kernel
theorem dX4_slow_51 : decode cX4_slow 51 = .ok (.iconst (-1), 1) := by decide +kernel
theorem dX4_slow_52 : decode cX4_slow 52 = .ok (.if_icmp .ne 5, 3) := by decide +kernel
theorem dX4_slow_55 : decode cX4_slow 55 = .ok (.iconst (-1), 1) := by decide +kernel
theorem dX4_slow_56 : decode cX4_slow 56 = .ok (.ireturn, 1) := by decide +kernel
theorem dX4_slow_57 : decode cX4_slow 57 = .ok (.iload_n 3, 1) := by decide +kernel
theorem dX4_slow_58 : decode cX4_slow 58 = .ok (.ifCond .ne 8, 3) := by decide +kernel
theorem dX4_slow_61 : decode cX4_slow 61 = .ok (.iload 5, 2) := by decide +kernel
theorem dX4_slow_63 : decode cX4_slow 63 = .ok (.goto 5, 3) := by decide +kernel
theorem dX4_slow_66 : decode cX4_slow 66 = .ok (.iload 4, 2) := by decide +kernel
theorem dX4_slow_68 : decode cX4_slow 68 = .ok (.ireturn, 1) := by decide +kernel
set_option maxRecDepth 20000 in
theorem ggX4_count_X4_untestable : GoodIn wsX4_count wsX4_untestable := goodIn_r _ [14, 15, 16, 17, 18, 19, 20, 21, 13, 22, 23, 3, 24, 25, 26, 27, 28, 29, 30, 31, 32, 33, 34, 35, 36, 37, 38, 39, 40, 41, 42, 43, 44, 45, 46, 47, 48, 49, 50, 51, 52, 53, 54, 55, 56, 57, 58, 59, 60, 61, 62, 63, 64, 65, 66, 67, 68, 69, 70, 71, 72, 73, 74, 75, 76, 77, 78, 79, 80, 81, 82, 83, 84, 85, 86, 87, 88, 89, 90, 91, 92, 93, 94, 95, 96, 97, 98, 99, 100, 101, 102, 103, 104, 105, 106, 107, 108, 109, 110, 111, 112, 113, 114, 115, 116, 117, 118, 119, 120, 121, 122, 123, 124, 125, 126, 127, 128, 129, 130, 131, 132, 133, 134, 135, 136, 137, 138, 139, 140, 141, 142, 143, 144, 145, 146, 147, 148, 149, 150, 151, 152, 153, 154, 155, 156, 157, 158, 159, 160, 161, 174, 175, 176, 177, 178, 179, 162, 163, 164, 165, 166, 167, 168, 169, 180, 181, 182, 183] (by decide +kernel) (by decide +kernel)
set_option maxRecDepth 20000 in
theorem gX4_count_X4_untestable : GoodIn wsX4_count (wsV RX4 199 RX4 yX4_untestable wsX4_untestable) := goodIn_app (goodIn_of _ (by decide +kernel)) ggX4_count_X4_untestable
theorem dX4_count_0 : decode cX4_count 0 = .ok (.iload_n 1, 1) := by decide +kernel
theorem dX4_count_1 : decode cX4_count 1 = .ok (.tableswitch 84 0 5 #[39, 47, 55, 63, 71, 79], 39) := by decide +kernel
theorem dX4_count_40 : decode cX4_count 40 = .ok (.aload_n 0, 1) := by decide +kernel
theorem dX4_count_41 : decode cX4_count 41 = .ok (.getfield 12, 3) := by decide +kernel
theorem dX4_count_44 : decode cX4_count 44 = .ok (.getfield 47, 3) := by decide +kernel
theorem dX4_count_47 : decode cX4_count 47 = .ok (.ireturn, 1) := by decide +kernel
theorem dX4_count_48 : decode cX4_count 48 = .ok (.aload_n 0, 1) := by decide +kernel
theorem dX4_count_49 : decode cX4_count 49 = .ok (.getfield 12, 3) := by decide +kernel
theorem dX4_count_52 : decode cX4_count 52 = .ok (.getfield 43, 3) := by decide +kernel
theorem dX4_count_55 : decode cX4_count 55 = .ok (.ireturn, 1) := by decide +kernel
theorem dX4_count_56 : decode cX4_count 56 = .ok (.aload_n 0, 1) := by decide +kernel
theorem dX4_count_57 : decode cX4_count 57 = .ok (.getfield 12, 3) := by decide +kernel
theorem dX4_count_60 : decode cX4_count 60 = .ok (.getfield 91, 3) := by decide +kernel
theorem dX4_count_63 : decode cX4_count 63 = .ok (.ireturn, 1) := by decide +kernel
theorem dX4_count_64 : decode cX4_count 64 = .ok (.aload_n 0, 1) := by decide +kernel
theorem dX4_count_65 : decode cX4_count 65 = .ok (.getfield 35, 3) := by decide +kernel
theorem dX4_count_68 : decode cX4_count 68 = .ok (.getfield 196, 3) := by decide +kernel
theorem dX4_count_71 : decode cX4_count 71 = .ok (.ireturn, 1) := by decide +kernel
theorem dX4_count_72 : decode cX4_count 72 = .ok (.aload_n 0, 1) := by decide +kernel
theorem dX4_count_73 : decode cX4_count 73 = .ok (.getfield 35, 3) := by decide +kernel
theorem dX4_count_76 : decode cX4_count 76 = .ok (.getfield 162, 3) := by decide +kernel
theorem dX4_count_79 : decode cX4_count 79 = .ok (.ireturn, 1) := by decide +kernel
theorem dX4_count_80 : decode cX4_count 80 = .ok (.aload_n 0, 1) := by decide +kernel
theorem dX4_count_81 : decode cX4_count 81 = .ok (.invokevirtual 199, 3) := by decide +kernel
theorem dX4_count_84 : decode cX4_count 84 = .ok (.ireturn, 1) := by decide +kernel
theorem dX4_count_85 : decode cX4_count 85 = .ok (.new 71, 3) := by decide +kernel
theorem dX4_count_88 : decode cX4_count 88 = .ok (.dup, 1) := by decide +kernel
theorem dX4_count_89 : decode cX4_count 89 = .ok (.ldc 136, 2) := by decide +kernel
theorem dX4_count_91 : decode cX4_count 91 = .ok (.invokespecial 75, 3) := by decide +kernel
theorem dX4_count_94 : decode cX4_count 94 = .ok (.athrow, 1) := by decide +kernel
set_option maxRecDepth 20000 in
theorem ggX4_clear_X0_empty : GoodIn wsX4_clear wsX0_empty := goodIn_r _ [6, 7, 8, 9, 37, 38, 39, 40, 41, 42, 43, 44] (by decide +kernel) (by decide +kernel)
set_option maxRecDepth 20000 in
theorem gX4_clear_X0_empty : GoodIn wsX4_clear (wsV RX4 202 RX0 yX0_empty wsX0_empty) := goodIn_app (goodIn_of _ (by decide +kernel)) ggX4_clear_X0_empty
set_option maxRecDepth 20000 in
theorem ggX4_clear_X4_forgetDerived : GoodIn wsX4_clear wsX4_forgetDerived := goodIn_r _ [14, 15, 16, 17, 18, 19, 20, 21, 22, 23, 24, 25, 26, 27, 28, 29, 30, 31, 32, 33, 34, 35, 36, 45, 46, 47, 48, 49, 50, 51, 52] (by decide +kernel) (by decide +kernel)
set_option maxRecDepth 20000 in
theorem gX4_clear_X4_forgetDerived : GoodIn wsX4_clear (wsV RX4 61 RX4 yX4_forgetDerived wsX4_forgetDerived) := goodIn_app (goodIn_of _ (by decide +kernel)) ggX4_clear_X4_forgetDerived
theorem dX4_clear_0 : decode cX4_clear 0 = .ok (.aload_n 0, 1) := by decide +kernel
theorem dX4_clear_1 : decode cX4_clear 1 = .ok (.getfield 12, 3) := by decide +kernel
theorem dX4_clear_4 : decode cX4_clear 4 = .ok (.invokevirtual 202, 3) := by decide +kernel
theorem dX4_clear_7 : decode cX4_clear 7 = .ok (.aload_n 0, 1) := by decide +kernel
theorem dX4_clear_8 : decode cX4_clear 8 = .ok (.invokevirtual 61, 3) := by decide +kernel
theorem dX4_clear_11 : decode cX4_clear 11 = .ok (.return_, 1) := by decide +kernel
set_option maxRecDepth 20000 in
theorem ggX4_requireNet_X0_hasNet : GoodIn wsX4_requireNet wsX0_hasNet := goodIn_r _ [8, 9, 15, 16, 17, 18, 19, 20, 21, 22] (by decide +kernel) (by decide +kernel)
set_option maxRecDepth 20000 in
theorem gX4_requireNet_X0_hasNet : GoodIn wsX4_requireNet (wsV RX4 64 RX0 yX0_hasNet wsX0_hasNet) := goodIn_app (goodIn_of _ (by decide +kernel)) ggX4_requireNet_X0_hasNet
theorem dX4_requireNet_0 : decode cX4_requireNet 0 = .ok (.aload_n 0, 1) := by decide +kernel
theorem dX4_requireNet_1 : decode cX4_requireNet 1 = .ok (.getfield 12, 3) := by decide +kernel
theorem dX4_requireNet_4 : decode cX4_requireNet 4 = .ok (.iload_n 1, 1) := by decide +kernel
theorem dX4_requireNet_5 : decode cX4_requireNet 5 = .ok (.invokevirtual 64, 3) := by decide +kernel
theorem dX4_requireNet_8 : decode cX4_requireNet 8 = .ok (.ifCond .ne 13, 3) := by decide +kernel
theorem dX4_requireNet_11 : decode cX4_requireNet 11 = .ok (.new 71, 3) := by decide +kernel
theorem dX4_requireNet_14 : decode cX4_requireNet 14 = .ok (.dup, 1) := by decide +kernel
theorem dX4_requireNet_15 : decode cX4_requireNet 15 = .ok (.ldc 73, 2) := by decide +kernel
theorem dX4_requireNet_17 : decode cX4_requireNet 17 = .ok (.invokespecial 75, 3) := by decide +kernel
theorem dX4_requireNet_20 : decode cX4_requireNet 20 = .ok (.athrow, 1) := by decide +kernel
theorem dX4_requireNet_21 : decode cX4_requireNet 21 = .ok (.return_, 1) := by decide +kernel
set_option maxRecDepth 20000 in
theorem ggX4_requireClass_X4_refresh : GoodIn wsX4_requireClass wsX4_refresh := goodIn_r _ [9, 10, 3, 11, 12, 13, 14, 15, 16, 17, 18, 19, 20, 21, 22, 23, 24, 25, 26, 27, 28, 29, 30, 31, 32, 33, 34, 8, 35, 36, 37, 38, 39, 40, 41, 42, 43, 44, 45, 46, 47, 48, 49, 50, 51, 52, 53, 54, 55, 56, 57, 58, 59, 60, 61, 62, 63, 64, 65, 66, 67, 68, 69, 70, 71, 72, 73, 74, 75, 76, 77, 78, 79, 80, 81, 82, 83, 84, 85, 86, 87, 88, 89, 90, 91, 92] (by decide +kernel) (by decide +kernel)
set_option maxRecDepth 20000 in
theorem gX4_requireClass_X4_refresh : GoodIn wsX4_requireClass (wsV RX4 111 RX4 yX4_refresh wsX4_refresh) := goodIn_app (goodIn_of _ (by decide +kernel)) ggX4_requireClass_X4_refresh
theorem dX4_requireClass_0 : decode cX4_requireClass 0 = .ok (.aload_n 0, 1) := by decide +kernel
theorem dX4_requireClass_1 : decode cX4_requireClass 1 = .ok (.invokevirtual 111, 3) := by decide +kernel
theorem dX4_requireClass_4 : decode cX4_requireClass 4 = .ok (.iload_n 1, 1) := by decide +kernel
theorem dX4_requireClass_5 : decode cX4_requireClass 5 = .ok (.ifCond .lt 14, 3) := by decide +kernel
theorem dX4_requireClass_8 : decode cX4_requireClass 8 = .ok (.iload_n 1, 1) := by decide +kernel
theorem dX4_requireClass_9 : decode cX4_requireClass 9 = .ok (.aload_n 0, 1) := by decide +kernel
theorem dX4_requireClass_10 : decode cX4_requireClass 10 = .ok (.getfield 19, 3) := by decide +kernel
theorem dX4_requireClass_13 : decode cX4_requireClass 13 = .ok (.getfield 114, 3) := by decide +kernel
theorem dX4_requireClass_16 : decode cX4_requireClass 16 = .ok (.if_icmp .lt 13, 3) := by decide +kernel
theorem dX4_requireClass_19 : decode cX4_requireClass 19 = .ok (.new 71, 3) := by decide +kernel
theorem dX4_requireClass_22 : decode cX4_requireClass 22 = .ok (.dup, 1) := by decide +kernel
theorem dX4_requireClass_23 : decode cX4_requireClass 23 = .ok (.ldc 205, 2) := by decide +kernel
theorem dX4_requireClass_25 : decode cX4_requireClass 25 = .ok (.invokespecial 75, 3) := by decide +kernel
theorem dX4_requireClass_28 : decode cX4_requireClass 28 = .ok (.athrow, 1) := by decide +kernel
theorem dX4_requireClass_29 : decode cX4_requireClass 29 = .ok (.return_, 1) := by decide +kernel
theorem dX4_requireBit_0 : decode cX4_requireBit 0 = .ok (.iload_n 0, 1) := by decide +kernel
theorem dX4_requireBit_1 : decode cX4_requireBit 1 = .ok (.ifCond .eq 18, 3) := by decide +kernel
theorem dX4_requireBit_4 : decode cX4_requireBit 4 = .ok (.iload_n 0, 1) := by decide +kernel
theorem dX4_requireBit_5 : decode cX4_requireBit 5 = .ok (.iconst 1, 1) := by decide +kernel
theorem dX4_requireBit_6 : decode cX4_requireBit 6 = .ok (.if_icmp .eq 13, 3) := by decide +kernel
theorem dX4_requireBit_9 : decode cX4_requireBit 9 = .ok (.new 71, 3) := by decide +kernel
theorem dX4_requireBit_12 : decode cX4_requireBit 12 = .ok (.dup, 1) := by decide +kernel
theorem dX4_requireBit_13 : decode cX4_requireBit 13 = .ok (.ldc 207, 2) := by decide +kernel
theorem dX4_requireBit_15 : decode cX4_requireBit 15 = .ok (.invokespecial 75, 3) := by decide +kernel
theorem dX4_requireBit_18 : decode cX4_requireBit 18 = .ok (.athrow, 1) := by decide +kernel
theorem dX4_requireBit_19 : decode cX4_requireBit 19 = .ok (.return_, 1) := by decide +kernel
set_option maxRecDepth 20000 in
theorem ggX4_forgetDerived_X3_forget : GoodIn wsX4_forgetDerived wsX3_forget := goodIn_r _ [9, 10, 27, 28, 29, 30] (by decide +kernel) (by decide +kernel)
set_option maxRecDepth 20000 in
theorem gX4_forgetDerived_X3_forget : GoodIn wsX4_forgetDerived (wsV RX4 209 RX3 yX3_forget wsX3_forget) := goodIn_app (goodIn_of _ (by decide +kernel)) ggX4_forgetDerived_X3_forget
set_option maxRecDepth 20000 in
theorem ggX4_forgetDerived_X2_forgetFound : GoodIn wsX4_forgetDerived wsX2_forgetFound := goodIn_r _ [15, 16, 17, 23, 24, 25, 26] (by decide +kernel) (by decide +kernel)
set_option maxRecDepth 20000 in
theorem gX4_forgetDerived_X2_forgetFound : GoodIn wsX4_forgetDerived (wsV RX4 190 RX2 yX2_forgetFound wsX2_forgetFound) := goodIn_app (goodIn_of _ (by decide +kernel)) ggX4_forgetDerived_X2_forgetFound
theorem dX4_forgetDerived_0 : decode cX4_forgetDerived 0 = .ok (.aload_n 0, 1) := by decide +kernel
theorem dX4_forgetDerived_1 : decode cX4_forgetDerived 1 = .ok (.iconst 1, 1) := by decide +kernel
theorem dX4_forgetDerived_2 : decode cX4_forgetDerived 2 = .ok (.putfield 39, 3) := by decide +kernel
theorem dX4_forgetDerived_5 : decode cX4_forgetDerived 5 = .ok (.aload_n 0, 1) := by decide +kernel
theorem dX4_forgetDerived_6 : decode cX4_forgetDerived 6 = .ok (.getfield 28, 3) := by decide +kernel
theorem dX4_forgetDerived_9 : decode cX4_forgetDerived 9 = .ok (.invokevirtual 209, 3) := by decide +kernel
theorem dX4_forgetDerived_12 : decode cX4_forgetDerived 12 = .ok (.aload_n 0, 1) := by decide +kernel
theorem dX4_forgetDerived_13 : decode cX4_forgetDerived 13 = .ok (.getfield 35, 3) := by decide +kernel
theorem dX4_forgetDerived_16 : decode cX4_forgetDerived 16 = .ok (.invokevirtual 190, 3) := by decide +kernel
theorem dX4_forgetDerived_19 : decode cX4_forgetDerived 19 = .ok (.aload_n 0, 1) := by decide +kernel
theorem dX4_forgetDerived_20 : decode cX4_forgetDerived 20 = .ok (.getfield 35, 3) := by decide +kernel
theorem dX4_forgetDerived_23 : decode cX4_forgetDerived 23 = .ok (.iconst 0, 1) := by decide +kernel
theorem dX4_forgetDerived_24 : decode cX4_forgetDerived 24 = .ok (.putfield 162, 3) := by decide +kernel
theorem dX4_forgetDerived_27 : decode cX4_forgetDerived 27 = .ok (.return_, 1) := by decide +kernel
set_option maxRecDepth 20000 in
theorem ggX4_refresh_X1_sort : GoodIn wsX4_refresh wsX1_sort := goodIn_r _ [8, 9, 10, 11, 12, 13, 14, 15, 7, 16, 17, 18, 19, 20, 21, 22, 23, 24, 25, 26, 27, 28, 29, 30, 31, 32, 33, 34, 35, 36, 37, 38, 39, 40, 41, 42, 43, 44, 45, 46, 47, 48, 49, 50, 51, 52, 53, 54, 55, 56, 57, 58, 59, 60, 61, 62, 63, 64, 65, 66, 72, 73, 74, 75, 76, 77, 78, 79, 80, 81, 82, 83, 84, 85] (by decide +kernel) (by decide +kernel)
set_option maxRecDepth 20000 in
theorem gX4_refresh_X1_sort : GoodIn wsX4_refresh (wsV RX4 212 RX1 yX1_sort wsX1_sort) := goodIn_app (goodIn_of _ (by decide +kernel)) ggX4_refresh_X1_sort
theorem dX4_refresh_0 : decode cX4_refresh 0 = .ok (.aload_n 0, 1) := by decide +kernel
theorem dX4_refresh_1 : decode cX4_refresh 1 = .ok (.getfield 39, 3) := by decide +kernel
theorem dX4_refresh_4 : decode cX4_refresh 4 = .ok (.ifCond .eq 19, 3) := by decide +kernel
theorem dX4_refresh_7 : decode cX4_refresh 7 = .ok (.aload_n 0, 1) := by decide +kernel
theorem dX4_refresh_8 : decode cX4_refresh 8 = .ok (.getfield 19, 3) := by decide +kernel
theorem dX4_refresh_11 : decode cX4_refresh 11 = .ok (.aload_n 0, 1) := by decide +kernel
theorem dX4_refresh_12 : decode cX4_refresh 12 = .ok (.getfield 12, 3) := by decide +kernel
theorem dX4_refresh_15 : decode cX4_refresh 15 = .ok (.invokevirtual 212, 3) := by decide +kernel
theorem dX4_refresh_18 : decode cX4_refresh 18 = .ok (.aload_n 0, 1) := by decide +kernel
theorem dX4_refresh_19 : decode cX4_refresh 19 = .ok (.iconst 0, 1) := by decide +kernel
theorem dX4_refresh_20 : decode cX4_refresh 20 = .ok (.putfield 39, 3) := by decide +kernel
theorem dX4_refresh_23 : decode cX4_refresh 23 = .ok (.return_, 1) := by decide +kernel
set_option maxRecDepth 20000 in
theorem ggX4_findBy_X3_isSeen : GoodIn wsX4_findBy wsX3_isSeen := goodIn_r _ [12, 13, 14, 15, 11, 16, 17, 18, 19, 20, 21, 22, 23, 24, 25, 26, 27, 28, 29, 30, 31, 32, 33, 34, 35, 36, 37, 38, 39, 40, 41, 42, 43, 44, 45, 46, 47, 48, 49, 50, 51, 52, 53, 54, 55, 56, 57, 58, 59, 60, 61, 62, 63, 64, 65, 66, 67, 68, 69, 70, 71, 72, 73, 74, 75, 76, 77, 78, 94, 95, 96, 97, 98, 99, 100, 101, 102, 103, 104, 105] (by decide +kernel) (by decide +kernel)
set_option maxRecDepth 20000 in
theorem gX4_findBy_X3_isSeen : GoodIn wsX4_findBy (wsV RX4 155 RX3 yX3_isSeen wsX3_isSeen) := goodIn_app (goodIn_of _ (by decide +kernel)) ggX4_findBy_X3_isSeen
theorem dX4_findBy_0 : decode cX4_findBy 0 = .ok (.iconst 0, 1) := by decide +kernel
theorem dX4_findBy_1 : decode cX4_findBy 1 = .ok (.istore_n 2, 1) := by decide +kernel
theorem dX4_findBy_2 : decode cX4_findBy 2 = .ok (.iconst 0, 1) := by decide +kernel
theorem dX4_findBy_3 : decode cX4_findBy 3 = .ok (.istore_n 3, 1) := by decide +kernel
theorem dX4_findBy_4 : decode cX4_findBy 4 = .ok (.iload_n 3, 1) := by decide +kernel
theorem dX4_findBy_5 : decode cX4_findBy 5 = .ok (.aload_n 0, 1) := by decide +kernel
theorem dX4_findBy_6 : decode cX4_findBy 6 = .ok (.getfield 19, 3) := by decide +kernel
theorem dX4_findBy_9 : decode cX4_findBy 9 = .ok (.getfield 114, 3) := by decide +kernel
theorem dX4_findBy_12 : decode cX4_findBy 12 = .ok (.if_icmp .ge 54, 3) := by decide +kernel
theorem dX4_findBy_15 : decode cX4_findBy 15 = .ok (.aload_n 0, 1) := by decide +kernel
theorem dX4_findBy_16 : decode cX4_findBy 16 = .ok (.getfield 35, 3) := by decide +kernel
theorem dX4_findBy_19 : decode cX4_findBy 19 = .ok (.getfield 165, 3) := by decide +kernel
theorem dX4_findBy_22 : decode cX4_findBy 22 = .ok (.iload_n 3, 1) := by decide +kernel
theorem dX4_findBy_23 : decode cX4_findBy 23 = .ok (.baload, 1) := by decide +kernel
theorem dX4_findBy_24 : decode cX4_findBy 24 = .ok (.ifCond .ne 36, 3) := by decide +kernel
theorem dX4_findBy_27 : decode cX4_findBy 27 = .ok (.aload_n 0, 1) := by decide +kernel
theorem dX4_findBy_28 : decode cX4_findBy 28 = .ok (.getfield 28, 3) := by decide +kernel
theorem dX4_findBy_31 : decode cX4_findBy 31 = .ok (.aload_n 0, 1) := by decide +kernel
theorem dX4_findBy_32 : decode cX4_findBy 32 = .ok (.getfield 19, 3) := by decide +kernel
theorem dX4_findBy_35 : decode cX4_findBy 35 = .ok (.getfield 120, 3) := by decide +kernel
theorem dX4_findBy_38 : decode cX4_findBy 38 = .ok (.iload_n 3, 1) := by decide +kernel
theorem dX4_findBy_39 : decode cX4_findBy 39 = .ok (.iaload, 1) := by decide +kernel
theorem dX4_findBy_40 : decode cX4_findBy 40 = .ok (.iload_n 1, 1) := by decide +kernel
theorem dX4_findBy_41 : decode cX4_findBy 41 = .ok (.invokevirtual 155, 3) := by decide +kernel
theorem dX4_findBy_44 : decode cX4_findBy 44 = .ok (.ifCond .eq 16, 3) := by decide +kernel
theorem dX4_findBy_47 : decode cX4_findBy 47 = .ok (.aload_n 0, 1) := by decide +kernel
theorem dX4_findBy_48 : decode cX4_findBy 48 = .ok (.getfield 35, 3) := by decide +kernel
theorem dX4_findBy_51 : decode cX4_findBy 51 = .ok (.getfield 165, 3) := by decide +kernel
theorem dX4_findBy_54 : decode cX4_findBy 54 = .ok (.iload_n 3, 1) := by decide +kernel
theorem dX4_findBy_55 : decode cX4_findBy 55 = .ok (.iconst 1, 1) := by decide +kernel
theorem dX4_findBy_56 : decode cX4_findBy 56 = .ok (.bastore, 1) := by decide +kernel
theorem dX4_findBy_57 : decode cX4_findBy 57 = .ok (.iinc 2 1, 3) := by decide +kernel
theorem dX4_findBy_60 : decode cX4_findBy 60 = .ok (.iinc 3 1, 3) := by decide +kernel
theorem dX4_findBy_63 : decode cX4_findBy 63 = .ok (.goto (-59), 3) := by decide +kernel
theorem dX4_findBy_66 : decode cX4_findBy 66 = .ok (.aload_n 0, 1) := by decide +kernel
theorem dX4_findBy_67 : decode cX4_findBy 67 = .ok (.getfield 35, 3) := by decide +kernel
theorem dX4_findBy_70 : decode cX4_findBy 70 = .ok (.dup, 1) := by decide +kernel
theorem dX4_findBy_71 : decode cX4_findBy 71 = .ok (.getfield 196, 3) := by decide +kernel
theorem dX4_findBy_74 : decode cX4_findBy 74 = .ok (.iload_n 2, 1) := by decide +kernel
theorem dX4_findBy_75 : decode cX4_findBy 75 = .ok (.iadd, 1) := by decide +kernel
theorem dX4_findBy_76 : decode cX4_findBy 76 = .ok (.putfield 196, 3) := by decide +kernel
theorem dX4_findBy_79 : decode cX4_findBy 79 = .ok (.iload_n 2, 1) := by decide +kernel
theorem dX4_findBy_80 : decode cX4_findBy 80 = .ok (.ireturn, 1) := by decide +kernel
set_option maxRecDepth 20000 in
theorem ggX4_untestable_X4_refresh : GoodIn wsX4_untestable wsX4_refresh := goodIn_r _ [9, 10, 1, 11, 12, 13, 14, 15, 16, 17, 18, 19, 20, 21, 22, 23, 24, 25, 26, 27, 28, 29, 30, 31, 32, 33, 34, 8, 35, 36, 37, 38, 39, 40, 41, 42, 43, 44, 45, 46, 47, 48, 49, 50, 51, 52, 53, 54, 55, 56, 57, 58, 59, 60, 61, 62, 63, 64, 65, 66, 67, 68, 69, 70, 71, 72, 73, 145, 146, 147, 148, 149, 150, 151, 152, 153, 154, 155, 156, 157, 158, 159, 160, 161, 162, 163] (by decide +kernel) (by decide +kernel)
set_option maxRecDepth 20000 in
theorem gX4_untestable_X4_refresh : GoodIn wsX4_untestable (wsV RX4 111 RX4 yX4_refresh wsX4_refresh) := goodIn_app (goodIn_of _ (by decide +kernel)) ggX4_untestable_X4_refresh
set_option maxRecDepth 20000 in
theorem ggX4_untestable_X3_least : GoodIn wsX4_untestable wsX3_least := goodIn_r _ [78, 79, 80, 81, 82, 31, 83, 84, 85, 86, 87, 77, 88, 89, 90, 91, 8, 92, 93, 94, 95, 96, 97, 98, 99, 100, 101, 102, 103, 104, 105, 106, 107, 108, 109, 110, 111, 112, 37, 38, 39, 40, 41, 113, 114, 115, 116, 117, 118, 119, 120, 121, 122, 123, 124, 125, 126, 127, 128, 129, 130, 131, 132, 133, 134, 135, 136, 137, 138, 139, 140, 141, 142, 143, 144, 164, 165, 166, 167, 156, 157, 158, 159, 160, 161, 162, 163] (by decide +kernel) (by decide +kernel)
set_option maxRecDepth 20000 in
theorem gX4_untestable_X3_least : GoodIn wsX4_untestable (wsV RX4 152 RX3 yX3_least wsX3_least) := goodIn_app (goodIn_of _ (by decide +kernel)) ggX4_untestable_X3_least
theorem dX4_untestable_0 : decode cX4_untestable 0 = .ok (.aload_n 0, 1) := by decide +kernel
theorem dX4_untestable_1 : decode cX4_untestable 1 = .ok (.invokevirtual 111, 3) := by decide +kernel
theorem dX4_untestable_4 : decode cX4_untestable 4 = .ok (.iconst 0, 1) := by decide +kernel
theorem dX4_untestable_5 : decode cX4_untestable 5 = .ok (.istore_n 1, 1) := by decide +kernel
theorem dX4_untestable_6 : decode cX4_untestable 6 = .ok (.iconst 0, 1) := by decide +kernel
theorem dX4_untestable_7 : decode cX4_untestable 7 = .ok (.istore_n 2, 1) := by decide +kernel
theorem dX4_untestable_8 : decode cX4_untestable 8 = .ok (.iload_n 2, 1) := by decide +kernel
theorem dX4_untestable_9 : decode cX4_untestable 9 = .ok (.aload_n 0, 1) := by decide +kernel
theorem dX4_untestable_10 : decode cX4_untestable 10 = .ok (.getfield 19, 3) := by decide +kernel
theorem dX4_untestable_13 : decode cX4_untestable 13 = .ok (.getfield 114, 3) := by decide +kernel
theorem dX4_untestable_16 : decode cX4_untestable 16 = .ok (.if_icmp .ge 32, 3) := by decide +kernel
theorem dX4_untestable_19 : decode cX4_untestable 19 = .ok (.aload_n 0, 1) := by decide +kernel
theorem dX4_untestable_20 : decode cX4_untestable 20 = .ok (.getfield 28, 3) := by decide +kernel
theorem dX4_untestable_23 : decode cX4_untestable 23 = .ok (.aload_n 0, 1) := by decide +kernel
theorem dX4_untestable_24 : decode cX4_untestable 24 = .ok (.getfield 19, 3) := by decide +kernel
theorem dX4_untestable_27 : decode cX4_untestable 27 = .ok (.getfield 120, 3) := by decide +kernel
theorem dX4_untestable_30 : decode cX4_untestable 30 = .ok (.iload_n 2, 1) := by decide +kernel
theorem dX4_untestable_31 : decode cX4_untestable 31 = .ok (.iaload, 1) := by decide +kernel
theorem dX4_untestable_32 : decode cX4_untestable 32 = .ok (.invokevirtual 152, 3) := by decide +kernel
theorem dX4_untestable_35 : decode cX4_untestable 35 = .ok (.iconst (-1), 1) := by decide +kernel
theorem dX4_untestable_36 : decode cX4_untestable 36 = .ok (.if_icmp .ne 6, 3) := by decide +kernel
theorem dX4_untestable_39 : decode cX4_untestable 39 = .ok (.iinc 1 1, 3) := by decide +kernel
theorem dX4_untestable_42 : decode cX4_untestable 42 = .ok (.iinc 2 1, 3) := by decide +kernel
theorem dX4_untestable_45 : decode cX4_untestable 45 = .ok (.goto (-37), 3) := by decide +kernel
theorem dX4_untestable_48 : decode cX4_untestable 48 = .ok (.iload_n 1, 1) := by decide +kernel
theorem dX4_untestable_49 : decode cX4_untestable 49 = .ok (.ireturn, 1) := by decide +kernel
theorem dX4_isOnePin_0 : decode cX4_isOnePin 0 = .ok (.iload_n 0, 1) := by decide +kernel
theorem dX4_isOnePin_1 : decode cX4_isOnePin 1 = .ok (.iconst 5, 1) := by decide +kernel
theorem dX4_isOnePin_2 : decode cX4_isOnePin 2 = .ok (.if_icmp .eq 9, 3) := by decide +kernel
theorem dX4_isOnePin_5 : decode cX4_isOnePin 5 = .ok (.iload_n 0, 1) := by decide +kernel
theorem dX4_isOnePin_6 : decode cX4_isOnePin 6 = .ok (.bipush 6, 2) := by decide +kernel
theorem dX4_isOnePin_8 : decode cX4_isOnePin 8 = .ok (.if_icmp .ne 7, 3) := by decide +kernel
theorem dX4_isOnePin_11 : decode cX4_isOnePin 11 = .ok (.iconst 1, 1) := by decide +kernel
theorem dX4_isOnePin_12 : decode cX4_isOnePin 12 = .ok (.goto 4, 3) := by decide +kernel
theorem dX4_isOnePin_15 : decode cX4_isOnePin 15 = .ok (.iconst 0, 1) := by decide +kernel
theorem dX4_isOnePin_16 : decode cX4_isOnePin 16 = .ok (.ireturn, 1) := by decide +kernel
theorem dX4_faultOf_0 : decode cX4_faultOf 0 = .ok (.iload_n 0, 1) := by decide +kernel
theorem dX4_faultOf_1 : decode cX4_faultOf 1 = .ok (.bipush 6, 2) := by decide +kernel
theorem dX4_faultOf_3 : decode cX4_faultOf 3 = .ok (.imul, 1) := by decide +kernel
theorem dX4_faultOf_4 : decode cX4_faultOf 4 = .ok (.iload_n 1, 1) := by decide +kernel
theorem dX4_faultOf_5 : decode cX4_faultOf 5 = .ok (.iconst 1, 1) := by decide +kernel
theorem dX4_faultOf_6 : decode cX4_faultOf 6 = .ok (.iadd, 1) := by decide +kernel
theorem dX4_faultOf_7 : decode cX4_faultOf 7 = .ok (.iconst 2, 1) := by decide +kernel
theorem dX4_faultOf_8 : decode cX4_faultOf 8 = .ok (.imul, 1) := by decide +kernel
theorem dX4_faultOf_9 : decode cX4_faultOf 9 = .ok (.iadd, 1) := by decide +kernel
theorem dX4_faultOf_10 : decode cX4_faultOf 10 = .ok (.iload_n 2, 1) := by decide +kernel
theorem dX4_faultOf_11 : decode cX4_faultOf 11 = .ok (.iadd, 1) := by decide +kernel
theorem dX4_faultOf_12 : decode cX4_faultOf 12 = .ok (.ireturn, 1) := by decide +kernel
theorem dX4_netOf_0 : decode cX4_netOf 0 = .ok (.iload_n 0, 1) := by decide +kernel
theorem dX4_netOf_1 : decode cX4_netOf 1 = .ok (.bipush 6, 2) := by decide +kernel
theorem dX4_netOf_3 : decode cX4_netOf 3 = .ok (.idiv, 1) := by decide +kernel
theorem dX4_netOf_4 : decode cX4_netOf 4 = .ok (.ireturn, 1) := by decide +kernel
theorem dX4_pinOf_0 : decode cX4_pinOf 0 = .ok (.iload_n 0, 1) := by decide +kernel
theorem dX4_pinOf_1 : decode cX4_pinOf 1 = .ok (.bipush 6, 2) := by decide +kernel
theorem dX4_pinOf_3 : decode cX4_pinOf 3 = .ok (.irem, 1) := by decide +kernel
theorem dX4_pinOf_4 : decode cX4_pinOf 4 = .ok (.iconst 2, 1) := by decide +kernel
theorem dX4_pinOf_5 : decode cX4_pinOf 5 = .ok (.idiv, 1) := by decide +kernel
theorem dX4_pinOf_6 : decode cX4_pinOf 6 = .ok (.iconst 1, 1) := by decide +kernel
theorem dX4_pinOf_7 : decode cX4_pinOf 7 = .ok (.isub, 1) := by decide +kernel
theorem dX4_pinOf_8 : decode cX4_pinOf 8 = .ok (.ireturn, 1) := by decide +kernel
theorem dX4_stuckOf_0 : decode cX4_stuckOf 0 = .ok (.iload_n 0, 1) := by decide +kernel
theorem dX4_stuckOf_1 : decode cX4_stuckOf 1 = .ok (.iconst 2, 1) := by decide +kernel
theorem dX4_stuckOf_2 : decode cX4_stuckOf 2 = .ok (.irem, 1) := by decide +kernel
theorem dX4_stuckOf_3 : decode cX4_stuckOf 3 = .ok (.ireturn, 1) := by decide +kernel
theorem dX4_allOf_0 : decode cX4_allOf 0 = .ok (.iload_n 0, 1) := by decide +kernel
theorem dX4_allOf_1 : decode cX4_allOf 1 = .ok (.ifCond .ne 7, 3) := by decide +kernel
theorem dX4_allOf_4 : decode cX4_allOf 4 = .ok (.lconst 0, 1) := by decide +kernel
theorem dX4_allOf_5 : decode cX4_allOf 5 = .ok (.goto 6, 3) := by decide +kernel
theorem dX4_allOf_8 : decode cX4_allOf 8 = .ok (.ldc2_w 215, 3) := by decide +kernel
theorem dX4_allOf_11 : decode cX4_allOf 11 = .ok (.lreturn, 1) := by decide +kernel
theorem dX4_bitOf_0 : decode cX4_bitOf 0 = .ok (.lload_n 0, 1) := by decide +kernel
theorem dX4_bitOf_1 : decode cX4_bitOf 1 = .ok (.iload_n 2, 1) := by decide +kernel
theorem dX4_bitOf_2 : decode cX4_bitOf 2 = .ok (.lushr, 1) := by decide +kernel
theorem dX4_bitOf_3 : decode cX4_bitOf 3 = .ok (.lconst 1, 1) := by decide +kernel
theorem dX4_bitOf_4 : decode cX4_bitOf 4 = .ok (.land, 1) := by decide +kernel
theorem dX4_bitOf_5 : decode cX4_bitOf 5 = .ok (.l2i, 1) := by decide +kernel
theorem dX4_bitOf_6 : decode cX4_bitOf 6 = .ok (.ireturn, 1) := by decide +kernel
set_option maxRecDepth 20000 in
theorem ggX4_lowestBit_J13_bitCount_95d88 : GoodIn wsX4_lowestBit wsJ13_bitCount_95d88 := goodIn_r _ [4, 5, 6, 7] (by decide +kernel) (by decide +kernel)
set_option maxRecDepth 20000 in
theorem gX4_lowestBit_J13_bitCount_95d88 : GoodIn wsX4_lowestBit (va_wsS RX4 217 yJ13_bitCount_95d88 wsJ13_bitCount_95d88) := goodIn_app (goodIn_of _ (by decide +kernel)) ggX4_lowestBit_J13_bitCount_95d88
theorem dX4_lowestBit_0 : decode cX4_lowestBit 0 = .ok (.lload_n 0, 1) := by decide +kernel
theorem dX4_lowestBit_1 : decode cX4_lowestBit 1 = .ok (.lload_n 0, 1) := by decide +kernel
theorem dX4_lowestBit_2 : decode cX4_lowestBit 2 = .ok (.lneg, 1) := by decide +kernel
theorem dX4_lowestBit_3 : decode cX4_lowestBit 3 = .ok (.land, 1) := by decide +kernel
theorem dX4_lowestBit_4 : decode cX4_lowestBit 4 = .ok (.lconst 1, 1) := by decide +kernel
theorem dX4_lowestBit_5 : decode cX4_lowestBit 5 = .ok (.lsub, 1) := by decide +kernel
theorem dX4_lowestBit_6 : decode cX4_lowestBit 6 = .ok (.invokestatic 217, 3) := by decide +kernel
theorem dX4_lowestBit_9 : decode cX4_lowestBit 9 = .ok (.ireturn, 1) := by decide +kernel
theorem dX4_gateWord_0 : decode cX4_gateWord 0 = .ok (.iload_n 0, 1) := by decide +kernel
theorem dX4_gateWord_1 : decode cX4_gateWord 1 = .ok (.tableswitch 73 0 5 #[39, 43, 47, 51, 59, 67], 39) := by decide +kernel
theorem dX4_gateWord_40 : decode cX4_gateWord 40 = .ok (.lload_n 1, 1) := by decide +kernel
theorem dX4_gateWord_41 : decode cX4_gateWord 41 = .ok (.lload_n 3, 1) := by decide +kernel
theorem dX4_gateWord_42 : decode cX4_gateWord 42 = .ok (.land, 1) := by decide +kernel
theorem dX4_gateWord_43 : decode cX4_gateWord 43 = .ok (.lreturn, 1) := by decide +kernel
theorem dX4_gateWord_44 : decode cX4_gateWord 44 = .ok (.lload_n 1, 1) := by decide +kernel
theorem dX4_gateWord_45 : decode cX4_gateWord 45 = .ok (.lload_n 3, 1) := by decide +kernel
theorem dX4_gateWord_46 : decode cX4_gateWord 46 = .ok (.lor, 1) := by decide +kernel
theorem dX4_gateWord_47 : decode cX4_gateWord 47 = .ok (.lreturn, 1) := by decide +kernel
theorem dX4_gateWord_48 : decode cX4_gateWord 48 = .ok (.lload_n 1, 1) := by decide +kernel
theorem dX4_gateWord_49 : decode cX4_gateWord 49 = .ok (.lload_n 3, 1) := by decide +kernel
theorem dX4_gateWord_50 : decode cX4_gateWord 50 = .ok (.lxor, 1) := by decide +kernel
theorem dX4_gateWord_51 : decode cX4_gateWord 51 = .ok (.lreturn, 1) := by decide +kernel
theorem dX4_gateWord_52 : decode cX4_gateWord 52 = .ok (.lload_n 1, 1) := by decide +kernel
theorem dX4_gateWord_53 : decode cX4_gateWord 53 = .ok (.lload_n 3, 1) := by decide +kernel
theorem dX4_gateWord_54 : decode cX4_gateWord 54 = .ok (.land, 1) := by decide +kernel
theorem dX4_gateWord_55 : decode cX4_gateWord 55 = .ok (.ldc2_w 215, 3) := by decide +kernel
theorem dX4_gateWord_58 : decode cX4_gateWord 58 = .ok (.lxor, 1) := by decide +kernel
theorem dX4_gateWord_59 : decode cX4_gateWord 59 = .ok (.lreturn, 1) := by decide +kernel
theorem dX4_gateWord_60 : decode cX4_gateWord 60 = .ok (.lload_n 1, 1) := by decide +kernel
theorem dX4_gateWord_61 : decode cX4_gateWord 61 = .ok (.lload_n 3, 1) := by decide +kernel
theorem dX4_gateWord_62 : decode cX4_gateWord 62 = .ok (.lor, 1) := by decide +kernel
theorem dX4_gateWord_63 : decode cX4_gateWord 63 = .ok (.ldc2_w 215, 3) := by decide +kernel
theorem dX4_gateWord_66 : decode cX4_gateWord 66 = .ok (.lxor, 1) := by decide +kernel
theorem dX4_gateWord_67 : decode cX4_gateWord 67 = .ok (.lreturn, 1) := by decide +kernel
theorem dX4_gateWord_68 : decode cX4_gateWord 68 = .ok (.lload_n 1, 1) := by decide +kernel
theorem dX4_gateWord_69 : decode cX4_gateWord 69 = .ok (.ldc2_w 215, 3) := by decide +kernel
theorem dX4_gateWord_72 : decode cX4_gateWord 72 = .ok (.lxor, 1) := by decide +kernel
theorem dX4_gateWord_73 : decode cX4_gateWord 73 = .ok (.lreturn, 1) := by decide +kernel
theorem dX4_gateWord_74 : decode cX4_gateWord 74 = .ok (.lload_n 1, 1) := by decide +kernel
theorem dX4_gateWord_75 : decode cX4_gateWord 75 = .ok (.lreturn, 1) := by decide +kernel
theorem dX5_init_0 : decode cX5_init 0 = .ok (.aload_n 0, 1) := by decide +kernel
theorem dX5_init_1 : decode cX5_init 1 = .ok (.invokespecial 1, 3) := by decide +kernel
theorem dX5_init_4 : decode cX5_init 4 = .ok (.aload_n 0, 1) := by decide +kernel
theorem dX5_init_5 : decode cX5_init 5 = .ok (.bipush 100, 2) := by decide +kernel
theorem dX5_init_7 : decode cX5_init 7 = .ok (.newarray .int, 2) := by decide +kernel
theorem dX5_init_9 : decode cX5_init 9 = .ok (.putfield 7, 3) := by decide +kernel
theorem dX5_init_12 : decode cX5_init 12 = .ok (.aload_n 0, 1) := by decide +kernel
theorem dX5_init_13 : decode cX5_init 13 = .ok (.bipush 100, 2) := by decide +kernel
theorem dX5_init_15 : decode cX5_init 15 = .ok (.newarray .int, 2) := by decide +kernel
theorem dX5_init_17 : decode cX5_init 17 = .ok (.putfield 13, 3) := by decide +kernel
theorem dX5_init_20 : decode cX5_init 20 = .ok (.aload_n 0, 1) := by decide +kernel
theorem dX5_init_21 : decode cX5_init 21 = .ok (.bipush 100, 2) := by decide +kernel
theorem dX5_init_23 : decode cX5_init 23 = .ok (.newarray .int, 2) := by decide +kernel
theorem dX5_init_25 : decode cX5_init 25 = .ok (.putfield 16, 3) := by decide +kernel
theorem dX5_init_28 : decode cX5_init 28 = .ok (.aload_n 0, 1) := by decide +kernel
theorem dX5_init_29 : decode cX5_init 29 = .ok (.bipush 100, 2) := by decide +kernel
theorem dX5_init_31 : decode cX5_init 31 = .ok (.newarray .int, 2) := by decide +kernel
theorem dX5_init_33 : decode cX5_init 33 = .ok (.putfield 19, 3) := by decide +kernel
theorem dX5_init_36 : decode cX5_init 36 = .ok (.aload_n 0, 1) := by decide +kernel
theorem dX5_init_37 : decode cX5_init 37 = .ok (.bipush 12, 2) := by decide +kernel
theorem dX5_init_39 : decode cX5_init 39 = .ok (.newarray .int, 2) := by decide +kernel
theorem dX5_init_41 : decode cX5_init 41 = .ok (.putfield 22, 3) := by decide +kernel
theorem dX5_init_44 : decode cX5_init 44 = .ok (.aload_n 0, 1) := by decide +kernel
theorem dX5_init_45 : decode cX5_init 45 = .ok (.sipush 600, 3) := by decide +kernel
theorem dX5_init_48 : decode cX5_init 48 = .ok (.newarray .int, 2) := by decide +kernel
theorem dX5_init_50 : decode cX5_init 50 = .ok (.putfield 25, 3) := by decide +kernel
theorem dX5_init_53 : decode cX5_init 53 = .ok (.aload_n 0, 1) := by decide +kernel
theorem dX5_init_54 : decode cX5_init 54 = .ok (.sipush 600, 3) := by decide +kernel
theorem dX5_init_57 : decode cX5_init 57 = .ok (.newarray .int, 2) := by decide +kernel
theorem dX5_init_59 : decode cX5_init 59 = .ok (.putfield 28, 3) := by decide +kernel
theorem dX5_init_62 : decode cX5_init 62 = .ok (.aload_n 0, 1) := by decide +kernel
theorem dX5_init_63 : decode cX5_init 63 = .ok (.sipush 600, 3) := by decide +kernel
theorem dX5_init_66 : decode cX5_init 66 = .ok (.newarray .int, 2) := by decide +kernel
theorem dX5_init_68 : decode cX5_init 68 = .ok (.putfield 31, 3) := by decide +kernel
theorem dX5_init_71 : decode cX5_init 71 = .ok (.aload_n 0, 1) := by decide +kernel
theorem dX5_init_72 : decode cX5_init 72 = .ok (.sipush 600, 3) := by decide +kernel
theorem dX5_init_75 : decode cX5_init 75 = .ok (.newarray .boolean, 2) := by decide +kernel
theorem dX5_init_77 : decode cX5_init 77 = .ok (.putfield 34, 3) := by decide +kernel
theorem dX5_init_80 : decode cX5_init 80 = .ok (.aload_n 0, 1) := by decide +kernel
theorem dX5_init_81 : decode cX5_init 81 = .ok (.sipush 600, 3) := by decide +kernel
theorem dX5_init_84 : decode cX5_init 84 = .ok (.newarray .int, 2) := by decide +kernel
theorem dX5_init_86 : decode cX5_init 86 = .ok (.putfield 38, 3) := by decide +kernel
theorem dX5_init_89 : decode cX5_init 89 = .ok (.aload_n 0, 1) := by decide +kernel
theorem dX5_init_90 : decode cX5_init 90 = .ok (.bipush 100, 2) := by decide +kernel
theorem dX5_init_92 : decode cX5_init 92 = .ok (.newarray .long, 2) := by decide +kernel
theorem dX5_init_94 : decode cX5_init 94 = .ok (.putfield 41, 3) := by decide +kernel
theorem dX5_init_97 : decode cX5_init 97 = .ok (.aload_n 0, 1) := by decide +kernel
theorem dX5_init_98 : decode cX5_init 98 = .ok (.bipush 100, 2) := by decide +kernel
theorem dX5_init_100 : decode cX5_init 100 = .ok (.newarray .long, 2) := by decide +kernel
theorem dX5_init_102 : decode cX5_init 102 = .ok (.putfield 45, 3) := by decide +kernel
theorem dX5_init_105 : decode cX5_init 105 = .ok (.return_, 1) := by decide +kernel
theorem dX5_thrown_0 : decode cX5_thrown 0 = .ok (.aload_n 0, 1) := by decide +kernel
theorem dX5_thrown_1 : decode cX5_thrown 1 = .ok (.getfield 48, 3) := by decide +kernel
theorem dX5_thrown_4 : decode cX5_thrown 4 = .ok (.ireturn, 1) := by decide +kernel
theorem dX5_refuses_0 : decode cX5_refuses 0 = .ok (.aload_n 0, 1) := by decide +kernel
theorem dX5_refuses_1 : decode cX5_refuses 1 = .ok (.iload_n 1, 1) := by decide +kernel
theorem dX5_refuses_2 : decode cX5_refuses 2 = .ok (.putfield 48, 3) := by decide +kernel
theorem dX5_refuses_5 : decode cX5_refuses 5 = .ok (.iload_n 1, 1) := by decide +kernel
theorem dX5_refuses_6 : decode cX5_refuses 6 = .ok (.ifCond .le 7, 3) := by decide +kernel
theorem dX5_refuses_9 : decode cX5_refuses 9 = .ok (.iconst 1, 1) := by decide +kernel
theorem dX5_refuses_10 : decode cX5_refuses 10 = .ok (.goto 4, 3) := by decide +kernel
theorem dX5_refuses_13 : decode cX5_refuses 13 = .ok (.iconst 0, 1) := by decide +kernel
theorem dX5_refuses_14 : decode cX5_refuses 14 = .ok (.ireturn, 1) := by decide +kernel
theorem dX5_isNet_0 : decode cX5_isNet 0 = .ok (.iload_n 1, 1) := by decide +kernel
theorem dX5_isNet_1 : decode cX5_isNet 1 = .ok (.ifCond .lt 15, 3) := by decide +kernel
theorem dX5_isNet_4 : decode cX5_isNet 4 = .ok (.iload_n 1, 1) := by decide +kernel
theorem dX5_isNet_5 : decode cX5_isNet 5 = .ok (.aload_n 0, 1) := by decide +kernel
theorem dX5_isNet_6 : decode cX5_isNet 6 = .ok (.getfield 52, 3) := by decide +kernel
theorem dX5_isNet_9 : decode cX5_isNet 9 = .ok (.if_icmp .ge 7, 3) := by decide +kernel
theorem dX5_isNet_12 : decode cX5_isNet 12 = .ok (.iconst 1, 1) := by decide +kernel
theorem dX5_isNet_13 : decode cX5_isNet 13 = .ok (.goto 4, 3) := by decide +kernel
theorem dX5_isNet_16 : decode cX5_isNet 16 = .ok (.iconst 0, 1) := by decide +kernel
theorem dX5_isNet_17 : decode cX5_isNet 17 = .ok (.ireturn, 1) := by decide +kernel
theorem dX5_pinsOf_0 : decode cX5_pinsOf 0 = .ok (.aload_n 0, 1) := by decide +kernel
theorem dX5_pinsOf_1 : decode cX5_pinsOf 1 = .ok (.getfield 7, 3) := by decide +kernel
theorem dX5_pinsOf_4 : decode cX5_pinsOf 4 = .ok (.iload_n 1, 1) := by decide +kernel
theorem dX5_pinsOf_5 : decode cX5_pinsOf 5 = .ok (.iaload, 1) := by decide +kernel
theorem dX5_pinsOf_6 : decode cX5_pinsOf 6 = .ok (.ifCond .ge 7, 3) := by decide +kernel
theorem dX5_pinsOf_9 : decode cX5_pinsOf 9 = .ok (.iconst 0, 1) := by decide +kernel
theorem dX5_pinsOf_10 : decode cX5_pinsOf 10 = .ok (.goto 18, 3) := by decide +kernel
theorem dX5_pinsOf_13 : decode cX5_pinsOf 13 = .ok (.aload_n 0, 1) := by decide +kernel
theorem dX5_pinsOf_14 : decode cX5_pinsOf 14 = .ok (.getfield 7, 3) := by decide +kernel
theorem dX5_pinsOf_17 : decode cX5_pinsOf 17 = .ok (.iload_n 1, 1) := by decide +kernel
theorem dX5_pinsOf_18 : decode cX5_pinsOf 18 = .ok (.iaload, 1) := by decide +kernel
theorem dX5_pinsOf_19 : decode cX5_pinsOf 19 = .ok (.iconst 4, 1) := by decide +kernel
theorem dX5_pinsOf_20 : decode cX5_pinsOf 20 = .ok (.if_icmp .le 7, 3) := by decide +kernel
theorem dX5_pinsOf_23 : decode cX5_pinsOf 23 = .ok (.iconst 1, 1) := by decide +kernel
theorem dX5_pinsOf_24 : decode cX5_pinsOf 24 = .ok (.goto 4, 3) := by decide +kernel
theorem dX5_pinsOf_27 : decode cX5_pinsOf 27 = .ok (.iconst 2, 1) := by decide +kernel
theorem dX5_pinsOf_28 : decode cX5_pinsOf 28 = .ok (.ireturn, 1) := by decide +kernel
theorem dX5_takenBy_0 : decode cX5_takenBy 0 = .ok (.iload_n 2, 1) := by decide +kernel
theorem dX5_takenBy_1 : decode cX5_takenBy 1 = .ok (.ifCond .ne 12, 3) := by decide +kernel
theorem dX5_takenBy_4 : decode cX5_takenBy 4 = .ok (.aload_n 0, 1) := by decide +kernel
theorem dX5_takenBy_5 : decode cX5_takenBy 5 = .ok (.getfield 13, 3) := by decide +kernel
theorem dX5_takenBy_8 : decode cX5_takenBy 8 = .ok (.iload_n 1, 1) := by decide +kernel
theorem dX5_takenBy_9 : decode cX5_takenBy 9 = .ok (.iaload, 1) := by decide +kernel
theorem dX5_takenBy_10 : decode cX5_takenBy 10 = .ok (.goto 9, 3) := by decide +kernel
theorem dX5_takenBy_13 : decode cX5_takenBy 13 = .ok (.aload_n 0, 1) := by decide +kernel
theorem dX5_takenBy_14 : decode cX5_takenBy 14 = .ok (.getfield 16, 3) := by decide +kernel
theorem dX5_takenBy_17 : decode cX5_takenBy 17 = .ok (.iload_n 1, 1) := by decide +kernel
theorem dX5_takenBy_18 : decode cX5_takenBy 18 = .ok (.iaload, 1) := by decide +kernel
theorem dX5_takenBy_19 : decode cX5_takenBy 19 = .ok (.ireturn, 1) := by decide +kernel
set_option maxRecDepth 20000 in
theorem ggX5_input_X5_refuses : GoodIn wsX5_input wsX5_refuses := goodIn_r _ [9, 10, 52, 53, 54, 55, 56, 57, 58, 59, 60, 61, 62, 63, 64, 65, 66, 67, 68, 69] (by decide +kernel) (by decide +kernel)
set_option maxRecDepth 20000 in
theorem gX5_input_X5_refuses : GoodIn wsX5_input (wsV RX5 58 RX5 yX5_refuses wsX5_refuses) := goodIn_app (goodIn_of _ (by decide +kernel)) ggX5_input_X5_refuses
set_option maxRecDepth 20000 in
theorem ggX5_input_X5_build : GoodIn wsX5_input wsX5_build := goodIn_r _ [14, 15, 16, 2, 17, 18, 19, 20, 21, 22, 23, 8, 24, 3, 25, 26, 27, 28, 29, 30, 31, 32, 33, 34, 35, 36, 37, 38, 39, 40, 41, 42, 43, 44, 45, 46, 47, 48, 49, 50, 51, 52, 53, 54, 55, 56, 57, 58, 59, 60, 61, 62, 63, 64, 65, 66, 67, 68, 69] (by decide +kernel) (by decide +kernel)
set_option maxRecDepth 20000 in
theorem gX5_input_X5_build : GoodIn wsX5_input (wsV RX5 62 RX5 yX5_build wsX5_build) := goodIn_app (goodIn_of _ (by decide +kernel)) ggX5_input_X5_build
theorem dX5_input_0 : decode cX5_input 0 = .ok (.aload_n 0, 1) := by decide +kernel
theorem dX5_input_1 : decode cX5_input 1 = .ok (.aload_n 0, 1) := by decide +kernel
theorem dX5_input_2 : decode cX5_input 2 = .ok (.getfield 55, 3) := by decide +kernel
theorem dX5_input_5 : decode cX5_input 5 = .ok (.bipush 10, 2) := by decide +kernel
theorem dX5_input_7 : decode cX5_input 7 = .ok (.if_icmp .eq 12, 3) := by decide +kernel
theorem dX5_input_10 : decode cX5_input 10 = .ok (.aload_n 0, 1) := by decide +kernel
theorem dX5_input_11 : decode cX5_input 11 = .ok (.getfield 52, 3) := by decide +kernel
theorem dX5_input_14 : decode cX5_input 14 = .ok (.bipush 100, 2) := by decide +kernel
theorem dX5_input_16 : decode cX5_input 16 = .ok (.if_icmp .ne 7, 3) := by decide +kernel
theorem dX5_input_19 : decode cX5_input 19 = .ok (.iconst 1, 1) := by decide +kernel
theorem dX5_input_20 : decode cX5_input 20 = .ok (.goto 4, 3) := by decide +kernel
theorem dX5_input_23 : decode cX5_input 23 = .ok (.iconst 0, 1) := by decide +kernel
theorem dX5_input_24 : decode cX5_input 24 = .ok (.invokevirtual 58, 3) := by decide +kernel
theorem dX5_input_27 : decode cX5_input 27 = .ok (.ifCond .eq 5, 3) := by decide +kernel
theorem dX5_input_30 : decode cX5_input 30 = .ok (.iconst 0, 1) := by decide +kernel
theorem dX5_input_31 : decode cX5_input 31 = .ok (.ireturn, 1) := by decide +kernel
theorem dX5_input_32 : decode cX5_input 32 = .ok (.aload_n 0, 1) := by decide +kernel
theorem dX5_input_33 : decode cX5_input 33 = .ok (.getfield 7, 3) := by decide +kernel
theorem dX5_input_36 : decode cX5_input 36 = .ok (.aload_n 0, 1) := by decide +kernel
theorem dX5_input_37 : decode cX5_input 37 = .ok (.getfield 52, 3) := by decide +kernel
theorem dX5_input_40 : decode cX5_input 40 = .ok (.iconst (-1), 1) := by decide +kernel
theorem dX5_input_41 : decode cX5_input 41 = .ok (.iastore, 1) := by decide +kernel
theorem dX5_input_42 : decode cX5_input 42 = .ok (.aload_n 0, 1) := by decide +kernel
theorem dX5_input_43 : decode cX5_input 43 = .ok (.getfield 19, 3) := by decide +kernel
theorem dX5_input_46 : decode cX5_input 46 = .ok (.aload_n 0, 1) := by decide +kernel
theorem dX5_input_47 : decode cX5_input 47 = .ok (.getfield 52, 3) := by decide +kernel
theorem dX5_input_50 : decode cX5_input 50 = .ok (.aload_n 0, 1) := by decide +kernel
theorem dX5_input_51 : decode cX5_input 51 = .ok (.getfield 55, 3) := by decide +kernel
theorem dX5_input_54 : decode cX5_input 54 = .ok (.iastore, 1) := by decide +kernel
theorem dX5_input_55 : decode cX5_input 55 = .ok (.aload_n 0, 1) := by decide +kernel
theorem dX5_input_56 : decode cX5_input 56 = .ok (.dup, 1) := by decide +kernel
theorem dX5_input_57 : decode cX5_input 57 = .ok (.getfield 55, 3) := by decide +kernel
theorem dX5_input_60 : decode cX5_input 60 = .ok (.iconst 1, 1) := by decide +kernel
theorem dX5_input_61 : decode cX5_input 61 = .ok (.iadd, 1) := by decide +kernel
theorem dX5_input_62 : decode cX5_input 62 = .ok (.putfield 55, 3) := by decide +kernel
theorem dX5_input_65 : decode cX5_input 65 = .ok (.aload_n 0, 1) := by decide +kernel
theorem dX5_input_66 : decode cX5_input 66 = .ok (.dup, 1) := by decide +kernel
theorem dX5_input_67 : decode cX5_input 67 = .ok (.getfield 52, 3) := by decide +kernel
theorem dX5_input_70 : decode cX5_input 70 = .ok (.iconst 1, 1) := by decide +kernel
theorem dX5_input_71 : decode cX5_input 71 = .ok (.iadd, 1) := by decide +kernel
theorem dX5_input_72 : decode cX5_input 72 = .ok (.putfield 52, 3) := by decide +kernel
theorem dX5_input_75 : decode cX5_input 75 = .ok (.aload_n 0, 1) := by decide +kernel
theorem dX5_input_76 : decode cX5_input 76 = .ok (.invokevirtual 62, 3) := by decide +kernel
theorem dX5_input_79 : decode cX5_input 79 = .ok (.aload_n 0, 1) := by decide +kernel
theorem dX5_input_80 : decode cX5_input 80 = .ok (.getfield 52, 3) := by decide +kernel
theorem dX5_input_83 : decode cX5_input 83 = .ok (.iconst 1, 1) := by decide +kernel
theorem dX5_input_84 : decode cX5_input 84 = .ok (.isub, 1) := by decide +kernel
theorem dX5_input_85 : decode cX5_input 85 = .ok (.ireturn, 1) := by decide +kernel
set_option maxRecDepth 20000 in
theorem ggX5_gate_X5_isNet : GoodIn wsX5_gate wsX5_isNet := goodIn_r _ [9, 1, 54, 55, 56, 57, 58, 59, 60, 61, 62, 63, 64, 65, 66, 67, 68, 69, 70, 71] (by decide +kernel) (by decide +kernel)
set_option maxRecDepth 20000 in
theorem gX5_gate_X5_isNet : GoodIn wsX5_gate (wsV RX5 65 RX5 yX5_isNet wsX5_isNet) := goodIn_app (goodIn_of _ (by decide +kernel)) ggX5_gate_X5_isNet
set_option maxRecDepth 20000 in
theorem ggX5_gate_X5_refuses : GoodIn wsX5_gate wsX5_refuses := goodIn_r _ [13, 14, 54, 55, 56, 57, 58, 59, 60, 61, 62, 63, 64, 65, 66, 67, 68, 69, 70, 71] (by decide +kernel) (by decide +kernel)
set_option maxRecDepth 20000 in
theorem gX5_gate_X5_refuses : GoodIn wsX5_gate (wsV RX5 58 RX5 yX5_refuses wsX5_refuses) := goodIn_app (goodIn_of _ (by decide +kernel)) ggX5_gate_X5_refuses
set_option maxRecDepth 20000 in
theorem ggX5_gate_X5_build : GoodIn wsX5_gate wsX5_build := goodIn_r _ [18, 19, 20, 1, 21, 22, 23, 24, 25, 26, 27, 8, 28, 2, 29, 30, 31, 32, 33, 34, 35, 36, 37, 38, 39, 40, 41, 42, 43, 44, 45, 46, 47, 48, 49, 3, 4, 50, 51, 52, 53, 54, 55, 56, 57, 58, 59, 60, 61, 62, 63, 64, 65, 66, 67, 68, 69, 70, 71] (by decide +kernel) (by decide +kernel)
set_option maxRecDepth 20000 in
theorem gX5_gate_X5_build : GoodIn wsX5_gate (wsV RX5 62 RX5 yX5_build wsX5_build) := goodIn_app (goodIn_of _ (by decide +kernel)) ggX5_gate_X5_build
theorem dX5_gate_0 : decode cX5_gate 0 = .ok (.iload_n 1, 1) := by decide +kernel
theorem dX5_gate_1 : decode cX5_gate 1 = .ok (.iconst 5, 1) := by decide +kernel
theorem dX5_gate_2 : decode cX5_gate 2 = .ok (.if_icmp .eq 9, 3) := by decide +kernel
theorem dX5_gate_5 : decode cX5_gate 5 = .ok (.iload_n 1, 1) := by decide +kernel
theorem dX5_gate_6 : decode cX5_gate 6 = .ok (.bipush 6, 2) := by decide +kernel
theorem dX5_gate_8 : decode cX5_gate 8 = .ok (.if_icmp .ne 7, 3) := by decide +kernel
theorem dX5_gate_11 : decode cX5_gate 11 = .ok (.iconst 1, 1) := by decide +kernel
theorem dX5_gate_12 : decode cX5_gate 12 = .ok (.goto 4, 3) := by decide +kernel
theorem dX5_gate_15 : decode cX5_gate 15 = .ok (.iconst 0, 1) := by decide +kernel
theorem dX5_gate_16 : decode cX5_gate 16 = .ok (.istore 4, 2) := by decide +kernel
theorem dX5_gate_18 : decode cX5_gate 18 = .ok (.aload_n 0, 1) := by decide +kernel
theorem dX5_gate_19 : decode cX5_gate 19 = .ok (.aload_n 0, 1) := by decide +kernel
theorem dX5_gate_20 : decode cX5_gate 20 = .ok (.iload_n 2, 1) := by decide +kernel
theorem dX5_gate_21 : decode cX5_gate 21 = .ok (.invokevirtual 65, 3) := by decide +kernel
theorem dX5_gate_24 : decode cX5_gate 24 = .ok (.ifCond .eq 16, 3) := by decide +kernel
theorem dX5_gate_27 : decode cX5_gate 27 = .ok (.iload 4, 2) := by decide +kernel
theorem dX5_gate_29 : decode cX5_gate 29 = .ok (.ifCond .ne 15, 3) := by decide +kernel
theorem dX5_gate_32 : decode cX5_gate 32 = .ok (.aload_n 0, 1) := by decide +kernel
theorem dX5_gate_33 : decode cX5_gate 33 = .ok (.iload_n 3, 1) := by decide +kernel
theorem dX5_gate_34 : decode cX5_gate 34 = .ok (.invokevirtual 65, 3) := by decide +kernel
theorem dX5_gate_37 : decode cX5_gate 37 = .ok (.ifCond .ne 7, 3) := by decide +kernel
theorem dX5_gate_40 : decode cX5_gate 40 = .ok (.iconst 1, 1) := by decide +kernel
theorem dX5_gate_41 : decode cX5_gate 41 = .ok (.goto 31, 3) := by decide +kernel
theorem dX5_gate_44 : decode cX5_gate 44 = .ok (.aload_n 0, 1) := by decide +kernel
theorem dX5_gate_45 : decode cX5_gate 45 = .ok (.getfield 52, 3) := by decide +kernel
theorem dX5_gate_48 : decode cX5_gate 48 = .ok (.bipush 100, 2) := by decide +kernel
theorem dX5_gate_50 : decode cX5_gate 50 = .ok (.if_icmp .ne 7, 3) := by decide +kernel
theorem dX5_gate_53 : decode cX5_gate 53 = .ok (.iconst 2, 1) := by decide +kernel
theorem dX5_gate_54 : decode cX5_gate 54 = .ok (.goto 18, 3) := by decide +kernel
theorem dX5_gate_57 : decode cX5_gate 57 = .ok (.iload_n 1, 1) := by decide +kernel
theorem dX5_gate_58 : decode cX5_gate 58 = .ok (.ifCond .lt 9, 3) := by decide +kernel
theorem dX5_gate_61 : decode cX5_gate 61 = .ok (.iload_n 1, 1) := by decide +kernel
theorem dX5_gate_62 : decode cX5_gate 62 = .ok (.bipush 6, 2) := by decide +kernel
theorem dX5_gate_64 : decode cX5_gate 64 = .ok (.if_icmp .le 7, 3) := by decide +kernel
theorem dX5_gate_67 : decode cX5_gate 67 = .ok (.iconst 3, 1) := by decide +kernel
theorem dX5_gate_68 : decode cX5_gate 68 = .ok (.goto 4, 3) := by decide +kernel
theorem dX5_gate_71 : decode cX5_gate 71 = .ok (.iconst 0, 1) := by decide +kernel
theorem dX5_gate_72 : decode cX5_gate 72 = .ok (.invokevirtual 58, 3) := by decide +kernel
theorem dX5_gate_75 : decode cX5_gate 75 = .ok (.ifCond .eq 5, 3) := by decide +kernel
theorem dX5_gate_78 : decode cX5_gate 78 = .ok (.iconst 0, 1) := by decide +kernel
theorem dX5_gate_79 : decode cX5_gate 79 = .ok (.ireturn, 1) := by decide +kernel
theorem dX5_gate_80 : decode cX5_gate 80 = .ok (.aload_n 0, 1) := by decide +kernel
theorem dX5_gate_81 : decode cX5_gate 81 = .ok (.getfield 7, 3) := by decide +kernel
theorem dX5_gate_84 : decode cX5_gate 84 = .ok (.aload_n 0, 1) := by decide +kernel
theorem dX5_gate_85 : decode cX5_gate 85 = .ok (.getfield 52, 3) := by decide +kernel
theorem dX5_gate_88 : decode cX5_gate 88 = .ok (.iload_n 1, 1) := by decide +kernel
theorem dX5_gate_89 : decode cX5_gate 89 = .ok (.iastore, 1) := by decide +kernel
theorem dX5_gate_90 : decode cX5_gate 90 = .ok (.aload_n 0, 1) := by decide +kernel
theorem dX5_gate_91 : decode cX5_gate 91 = .ok (.getfield 13, 3) := by decide +kernel
theorem dX5_gate_94 : decode cX5_gate 94 = .ok (.aload_n 0, 1) := by decide +kernel
theorem dX5_gate_95 : decode cX5_gate 95 = .ok (.getfield 52, 3) := by decide +kernel
theorem dX5_gate_98 : decode cX5_gate 98 = .ok (.iload_n 2, 1) := by decide +kernel
theorem dX5_gate_99 : decode cX5_gate 99 = .ok (.iastore, 1) := by decide +kernel
theorem dX5_gate_100 : decode cX5_gate 100 = .ok (.aload_n 0, 1) := by decide +kernel
theorem dX5_gate_101 : decode cX5_gate 101 = .ok (.getfield 16, 3) := by decide +kernel
theorem dX5_gate_104 : decode cX5_gate 104 = .ok (.aload_n 0, 1) := by decide +kernel
theorem dX5_gate_105 : decode cX5_gate 105 = .ok (.getfield 52, 3) := by decide +kernel
theorem dX5_gate_108 : decode cX5_gate 108 = .ok (.iload 4, 2) := by decide +kernel
theorem dX5_gate_110 : decode cX5_gate 110 = .ok (.ifCond .eq 7, 3) := by decide +kernel
theorem dX5_gate_113 : decode cX5_gate 113 = .ok (.iload_n 2, 1) := by decide +kernel
theorem dX5_gate_114 : decode cX5_gate 114 = .ok (.goto 4, 3) := by decide +kernel
theorem dX5_gate_117 : decode cX5_gate 117 = .ok (.iload_n 3, 1) := by decide +kernel
theorem dX5_gate_118 : decode cX5_gate 118 = .ok (.iastore, 1) := by decide +kernel
theorem dX5_gate_119 : decode cX5_gate 119 = .ok (.aload_n 0, 1) := by decide +kernel
theorem dX5_gate_120 : decode cX5_gate 120 = .ok (.dup, 1) := by decide +kernel
theorem dX5_gate_121 : decode cX5_gate 121 = .ok (.getfield 52, 3) := by decide +kernel
theorem dX5_gate_124 : decode cX5_gate 124 = .ok (.iconst 1, 1) := by decide +kernel
theorem dX5_gate_125 : decode cX5_gate 125 = .ok (.iadd, 1) := by decide +kernel
theorem dX5_gate_126 : decode cX5_gate 126 = .ok (.putfield 52, 3) := by decide +kernel
theorem dX5_gate_129 : decode cX5_gate 129 = .ok (.aload_n 0, 1) := by decide +kernel
theorem dX5_gate_130 : decode cX5_gate 130 = .ok (.invokevirtual 62, 3) := by decide +kernel
theorem dX5_gate_133 : decode cX5_gate 133 = .ok (.aload_n 0, 1) := by decide +kernel
theorem dX5_gate_134 : decode cX5_gate 134 = .ok (.getfield 52, 3) := by decide +kernel
theorem dX5_gate_137 : decode cX5_gate 137 = .ok (.iconst 1, 1) := by decide +kernel
theorem dX5_gate_138 : decode cX5_gate 138 = .ok (.isub, 1) := by decide +kernel
theorem dX5_gate_139 : decode cX5_gate 139 = .ok (.ireturn, 1) := by decide +kernel
set_option maxRecDepth 20000 in
theorem ggX5_output_X5_isNet : GoodIn wsX5_output wsX5_isNet := goodIn_r _ [7, 8, 54, 55, 56, 57, 58, 59, 60, 61, 62, 63, 64, 65, 66, 67, 68, 69, 70, 71] (by decide +kernel) (by decide +kernel)
set_option maxRecDepth 20000 in
theorem gX5_output_X5_isNet : GoodIn wsX5_output (wsV RX5 65 RX5 yX5_isNet wsX5_isNet) := goodIn_app (goodIn_of _ (by decide +kernel)) ggX5_output_X5_isNet
set_option maxRecDepth 20000 in
theorem ggX5_output_X5_refuses : GoodIn wsX5_output wsX5_refuses := goodIn_r _ [12, 13, 54, 55, 56, 57, 58, 59, 60, 61, 62, 63, 64, 65, 66, 67, 68, 69, 70, 71] (by decide +kernel) (by decide +kernel)
set_option maxRecDepth 20000 in
theorem gX5_output_X5_refuses : GoodIn wsX5_output (wsV RX5 58 RX5 yX5_refuses wsX5_refuses) := goodIn_app (goodIn_of _ (by decide +kernel)) ggX5_output_X5_refuses
set_option maxRecDepth 20000 in
theorem ggX5_output_X5_build : GoodIn wsX5_output wsX5_build := goodIn_r _ [17, 18, 19, 8, 20, 21, 22, 23, 24, 25, 26, 6, 27, 28, 29, 30, 31, 32, 33, 34, 35, 36, 37, 38, 39, 40, 41, 42, 43, 1, 2, 44, 45, 46, 47, 48, 49, 50, 51, 52, 53, 54, 55, 56, 57, 58, 59, 60, 61, 62, 63, 64, 65, 66, 67, 68, 69, 70, 71] (by decide +kernel) (by decide +kernel)
set_option maxRecDepth 20000 in
theorem gX5_output_X5_build : GoodIn wsX5_output (wsV RX5 62 RX5 yX5_build wsX5_build) := goodIn_app (goodIn_of _ (by decide +kernel)) ggX5_output_X5_build
theorem dX5_output_0 : decode cX5_output 0 = .ok (.aload_n 0, 1) := by decide +kernel
theorem dX5_output_1 : decode cX5_output 1 = .ok (.aload_n 0, 1) := by decide +kernel
theorem dX5_output_2 : decode cX5_output 2 = .ok (.iload_n 1, 1) := by decide +kernel
theorem dX5_output_3 : decode cX5_output 3 = .ok (.invokevirtual 65, 3) := by decide +kernel
theorem dX5_output_6 : decode cX5_output 6 = .ok (.ifCond .ne 7, 3) := by decide +kernel
theorem dX5_output_9 : decode cX5_output 9 = .ok (.iconst 1, 1) := by decide +kernel
theorem dX5_output_10 : decode cX5_output 10 = .ok (.goto 17, 3) := by decide +kernel
theorem dX5_output_13 : decode cX5_output 13 = .ok (.aload_n 0, 1) := by decide +kernel
theorem dX5_output_14 : decode cX5_output 14 = .ok (.getfield 68, 3) := by decide +kernel
theorem dX5_output_17 : decode cX5_output 17 = .ok (.bipush 12, 2) := by decide +kernel
theorem dX5_output_19 : decode cX5_output 19 = .ok (.if_icmp .ne 7, 3) := by decide +kernel
theorem dX5_output_22 : decode cX5_output 22 = .ok (.iconst 2, 1) := by decide +kernel
theorem dX5_output_23 : decode cX5_output 23 = .ok (.goto 4, 3) := by decide +kernel
theorem dX5_output_26 : decode cX5_output 26 = .ok (.iconst 0, 1) := by decide +kernel
theorem dX5_output_27 : decode cX5_output 27 = .ok (.invokevirtual 58, 3) := by decide +kernel
theorem dX5_output_30 : decode cX5_output 30 = .ok (.ifCond .eq 5, 3) := by decide +kernel
theorem dX5_output_33 : decode cX5_output 33 = .ok (.iconst 0, 1) := by decide +kernel
theorem dX5_output_34 : decode cX5_output 34 = .ok (.ireturn, 1) := by decide +kernel
theorem dX5_output_35 : decode cX5_output 35 = .ok (.aload_n 0, 1) := by decide +kernel
theorem dX5_output_36 : decode cX5_output 36 = .ok (.getfield 22, 3) := by decide +kernel
theorem dX5_output_39 : decode cX5_output 39 = .ok (.aload_n 0, 1) := by decide +kernel
theorem dX5_output_40 : decode cX5_output 40 = .ok (.getfield 68, 3) := by decide +kernel
theorem dX5_output_43 : decode cX5_output 43 = .ok (.iload_n 1, 1) := by decide +kernel
theorem dX5_output_44 : decode cX5_output 44 = .ok (.iastore, 1) := by decide +kernel
theorem dX5_output_45 : decode cX5_output 45 = .ok (.aload_n 0, 1) := by decide +kernel
theorem dX5_output_46 : decode cX5_output 46 = .ok (.dup, 1) := by decide +kernel
theorem dX5_output_47 : decode cX5_output 47 = .ok (.getfield 68, 3) := by decide +kernel
theorem dX5_output_50 : decode cX5_output 50 = .ok (.iconst 1, 1) := by decide +kernel
theorem dX5_output_51 : decode cX5_output 51 = .ok (.iadd, 1) := by decide +kernel
theorem dX5_output_52 : decode cX5_output 52 = .ok (.putfield 68, 3) := by decide +kernel
theorem dX5_output_55 : decode cX5_output 55 = .ok (.aload_n 0, 1) := by decide +kernel
theorem dX5_output_56 : decode cX5_output 56 = .ok (.invokevirtual 62, 3) := by decide +kernel
theorem dX5_output_59 : decode cX5_output 59 = .ok (.aload_n 0, 1) := by decide +kernel
theorem dX5_output_60 : decode cX5_output 60 = .ok (.getfield 68, 3) := by decide +kernel
theorem dX5_output_63 : decode cX5_output 63 = .ok (.iconst 1, 1) := by decide +kernel
theorem dX5_output_64 : decode cX5_output 64 = .ok (.isub, 1) := by decide +kernel
theorem dX5_output_65 : decode cX5_output 65 = .ok (.ireturn, 1) := by decide +kernel
theorem dX5_faultOf_0 : decode cX5_faultOf 0 = .ok (.bipush 6, 2) := by decide +kernel
theorem dX5_faultOf_2 : decode cX5_faultOf 2 = .ok (.iload_n 0, 1) := by decide +kernel
theorem dX5_faultOf_3 : decode cX5_faultOf 3 = .ok (.imul, 1) := by decide +kernel
theorem dX5_faultOf_4 : decode cX5_faultOf 4 = .ok (.iconst 2, 1) := by decide +kernel
theorem dX5_faultOf_5 : decode cX5_faultOf 5 = .ok (.iload_n 1, 1) := by decide +kernel
theorem dX5_faultOf_6 : decode cX5_faultOf 6 = .ok (.iconst 1, 1) := by decide +kernel
theorem dX5_faultOf_7 : decode cX5_faultOf 7 = .ok (.iadd, 1) := by decide +kernel
theorem dX5_faultOf_8 : decode cX5_faultOf 8 = .ok (.imul, 1) := by decide +kernel
theorem dX5_faultOf_9 : decode cX5_faultOf 9 = .ok (.iadd, 1) := by decide +kernel
theorem dX5_faultOf_10 : decode cX5_faultOf 10 = .ok (.iload_n 2, 1) := by decide +kernel
theorem dX5_faultOf_11 : decode cX5_faultOf 11 = .ok (.iadd, 1) := by decide +kernel
theorem dX5_faultOf_12 : decode cX5_faultOf 12 = .ok (.ireturn, 1) := by decide +kernel
set_option maxRecDepth 20000 in
theorem ggX5_isLine_X5_pinsOf : GoodIn wsX5_isLine wsX5_pinsOf := goodIn_r _ [6, 7, 8, 9, 10, 11, 12, 13, 14, 15, 16, 17, 18, 19, 20, 21, 22, 23, 24, 25] (by decide +kernel) (by decide +kernel)
set_option maxRecDepth 20000 in
theorem gX5_isLine_X5_pinsOf : GoodIn wsX5_isLine (wsV RX5 71 RX5 yX5_pinsOf wsX5_pinsOf) := goodIn_app (goodIn_of _ (by decide +kernel)) ggX5_isLine_X5_pinsOf
theorem dX5_isLine_0 : decode cX5_isLine 0 = .ok (.iload_n 1, 1) := by decide +kernel
theorem dX5_isLine_1 : decode cX5_isLine 1 = .ok (.bipush 6, 2) := by decide +kernel
theorem dX5_isLine_3 : decode cX5_isLine 3 = .ok (.idiv, 1) := by decide +kernel
theorem dX5_isLine_4 : decode cX5_isLine 4 = .ok (.aload_n 0, 1) := by decide +kernel
theorem dX5_isLine_5 : decode cX5_isLine 5 = .ok (.getfield 52, 3) := by decide +kernel
theorem dX5_isLine_8 : decode cX5_isLine 8 = .ok (.if_icmp .ge 26, 3) := by decide +kernel
theorem dX5_isLine_11 : decode cX5_isLine 11 = .ok (.iload_n 1, 1) := by decide +kernel
theorem dX5_isLine_12 : decode cX5_isLine 12 = .ok (.bipush 6, 2) := by decide +kernel
theorem dX5_isLine_14 : decode cX5_isLine 14 = .ok (.irem, 1) := by decide +kernel
theorem dX5_isLine_15 : decode cX5_isLine 15 = .ok (.iconst 2, 1) := by decide +kernel
theorem dX5_isLine_16 : decode cX5_isLine 16 = .ok (.idiv, 1) := by decide +kernel
theorem dX5_isLine_17 : decode cX5_isLine 17 = .ok (.iconst 1, 1) := by decide +kernel
theorem dX5_isLine_18 : decode cX5_isLine 18 = .ok (.isub, 1) := by decide +kernel
theorem dX5_isLine_19 : decode cX5_isLine 19 = .ok (.aload_n 0, 1) := by decide +kernel
theorem dX5_isLine_20 : decode cX5_isLine 20 = .ok (.iload_n 1, 1) := by decide +kernel
theorem dX5_isLine_21 : decode cX5_isLine 21 = .ok (.bipush 6, 2) := by decide +kernel
theorem dX5_isLine_23 : decode cX5_isLine 23 = .ok (.idiv, 1) := by decide +kernel
theorem dX5_isLine_24 : decode cX5_isLine 24 = .ok (.invokevirtual 71, 3) := by decide +kernel
theorem dX5_isLine_27 : decode cX5_isLine 27 = .ok (.if_icmp .ge 7, 3) := by decide +kernel
theorem dX5_isLine_30 : decode cX5_isLine 30 = .ok (.iconst 1, 1) := by decide +kernel
theorem dX5_isLine_31 : decode cX5_isLine 31 = .ok (.goto 4, 3) := by decide +kernel
theorem dX5_isLine_34 : decode cX5_isLine 34 = .ok (.iconst 0, 1) := by decide +kernel
theorem dX5_isLine_35 : decode cX5_isLine 35 = .ok (.ireturn, 1) := by decide +kernel
theorem dX5_put_0 : decode cX5_put 0 = .ok (.aload_n 0, 1) := by decide +kernel
theorem dX5_put_1 : decode cX5_put 1 = .ok (.getfield 25, 3) := by decide +kernel
theorem dX5_put_4 : decode cX5_put 4 = .ok (.iload_n 1, 1) := by decide +kernel
theorem dX5_put_5 : decode cX5_put 5 = .ok (.iaload, 1) := by decide +kernel
theorem dX5_put_6 : decode cX5_put 6 = .ok (.istore_n 3, 1) := by decide +kernel
theorem dX5_put_7 : decode cX5_put 7 = .ok (.aload_n 0, 1) := by decide +kernel
theorem dX5_put_8 : decode cX5_put 8 = .ok (.getfield 25, 3) := by decide +kernel
theorem dX5_put_11 : decode cX5_put 11 = .ok (.iload_n 2, 1) := by decide +kernel
theorem dX5_put_12 : decode cX5_put 12 = .ok (.iaload, 1) := by decide +kernel
theorem dX5_put_13 : decode cX5_put 13 = .ok (.istore 4, 2) := by decide +kernel
theorem dX5_put_15 : decode cX5_put 15 = .ok (.iconst 0, 1) := by decide +kernel
theorem dX5_put_16 : decode cX5_put 16 = .ok (.istore 5, 2) := by decide +kernel
theorem dX5_put_18 : decode cX5_put 18 = .ok (.iload 5, 2) := by decide +kernel
theorem dX5_put_20 : decode cX5_put 20 = .ok (.sipush 600, 3) := by decide +kernel
theorem dX5_put_23 : decode cX5_put 23 = .ok (.if_icmp .ge 61, 3) := by decide +kernel
theorem dX5_put_26 : decode cX5_put 26 = .ok (.aload_n 0, 1) := by decide +kernel
theorem dX5_put_27 : decode cX5_put 27 = .ok (.getfield 25, 3) := by decide +kernel
theorem dX5_put_30 : decode cX5_put 30 = .ok (.iload 5, 2) := by decide +kernel
theorem dX5_put_32 : decode cX5_put 32 = .ok (.aload_n 0, 1) := by decide +kernel
theorem dX5_put_33 : decode cX5_put 33 = .ok (.getfield 25, 3) := by decide +kernel
theorem dX5_put_36 : decode cX5_put 36 = .ok (.iload 5, 2) := by decide +kernel
theorem dX5_put_38 : decode cX5_put 38 = .ok (.iaload, 1) := by decide +kernel
theorem dX5_put_39 : decode cX5_put 39 = .ok (.iload_n 3, 1) := by decide +kernel
theorem dX5_put_40 : decode cX5_put 40 = .ok (.if_icmp .eq 15, 3) := by decide +kernel
theorem dX5_put_43 : decode cX5_put 43 = .ok (.aload_n 0, 1) := by decide +kernel
theorem dX5_put_44 : decode cX5_put 44 = .ok (.getfield 25, 3) := by decide +kernel
theorem dX5_put_47 : decode cX5_put 47 = .ok (.iload 5, 2) := by decide +kernel
theorem dX5_put_49 : decode cX5_put 49 = .ok (.iaload, 1) := by decide +kernel
theorem dX5_put_50 : decode cX5_put 50 = .ok (.iload 4, 2) := by decide +kernel
theorem dX5_put_52 : decode cX5_put 52 = .ok (.if_icmp .ne 18, 3) := by decide +kernel
theorem dX5_put_55 : decode cX5_put 55 = .ok (.iload_n 3, 1) := by decide +kernel
theorem dX5_put_56 : decode cX5_put 56 = .ok (.iload 4, 2) := by decide +kernel
theorem dX5_put_58 : decode cX5_put 58 = .ok (.if_icmp .ge 7, 3) := by decide +kernel
theorem dX5_put_61 : decode cX5_put 61 = .ok (.iload_n 3, 1) := by decide +kernel
theorem dX5_put_62 : decode cX5_put 62 = .ok (.goto 15, 3) := by decide +kernel
theorem dX5_put_65 : decode cX5_put 65 = .ok (.iload 4, 2) := by decide +kernel
theorem dX5_put_67 : decode cX5_put 67 = .ok (.goto 10, 3) := by decide +kernel
theorem dX5_put_70 : decode cX5_put 70 = .ok (.aload_n 0, 1) := by decide +kernel
theorem dX5_put_71 : decode cX5_put 71 = .ok (.getfield 25, 3) := by decide +kernel
theorem dX5_put_74 : decode cX5_put 74 = .ok (.iload 5, 2) := by decide +kernel
theorem dX5_put_76 : decode cX5_put 76 = .ok (.iaload, 1) := by decide +kernel
theorem dX5_put_77 : decode cX5_put 77 = .ok (.iastore, 1) := by decide +kernel
theorem dX5_put_78 : decode cX5_put 78 = .ok (.iinc 5 1, 3) := by decide +kernel
theorem dX5_put_81 : decode cX5_put 81 = .ok (.goto (-63), 3) := by decide +kernel
theorem dX5_put_84 : decode cX5_put 84 = .ok (.return_, 1) := by decide +kernel
set_option maxRecDepth 20000 in
theorem ggX5_joinGate_X5_pinsOf : GoodIn wsX5_joinGate wsX5_pinsOf := goodIn_r _ [6, 1, 15, 16, 17, 18, 19, 20, 21, 22, 23, 24, 25, 26, 27, 28, 29, 30, 31, 32] (by decide +kernel) (by decide +kernel)
set_option maxRecDepth 20000 in
theorem gX5_joinGate_X5_pinsOf : GoodIn wsX5_joinGate (wsV RX5 71 RX5 yX5_pinsOf wsX5_pinsOf) := goodIn_app (goodIn_of _ (by decide +kernel)) ggX5_joinGate_X5_pinsOf
set_option maxRecDepth 20000 in
theorem ggX5_joinGate_X5_faultOf : GoodIn wsX5_joinGate wsX5_faultOf := goodIn_r _ [9] (by decide +kernel) (by decide +kernel)
set_option maxRecDepth 20000 in
theorem gX5_joinGate_X5_faultOf : GoodIn wsX5_joinGate (va_wsS RX5 75 yX5_faultOf wsX5_faultOf) := goodIn_app (goodIn_of _ (by decide +kernel)) ggX5_joinGate_X5_faultOf
set_option maxRecDepth 20000 in
theorem ggX5_joinGate_X5_put : GoodIn wsX5_joinGate wsX5_put := goodIn_r _ [13, 14, 15, 16, 17, 18, 19, 20, 21, 22, 23, 24, 25, 26, 27, 28, 29, 30, 31, 32] (by decide +kernel) (by decide +kernel)
set_option maxRecDepth 20000 in
theorem gX5_joinGate_X5_put : GoodIn wsX5_joinGate (wsV RX5 79 RX5 yX5_put wsX5_put) := goodIn_app (goodIn_of _ (by decide +kernel)) ggX5_joinGate_X5_put
theorem dX5_joinGate_0 : decode cX5_joinGate 0 = .ok (.iconst 0, 1) := by decide +kernel
theorem dX5_joinGate_1 : decode cX5_joinGate 1 = .ok (.istore_n 2, 1) := by decide +kernel
theorem dX5_joinGate_2 : decode cX5_joinGate 2 = .ok (.iload_n 2, 1) := by decide +kernel
theorem dX5_joinGate_3 : decode cX5_joinGate 3 = .ok (.aload_n 0, 1) := by decide +kernel
theorem dX5_joinGate_4 : decode cX5_joinGate 4 = .ok (.iload_n 1, 1) := by decide +kernel
theorem dX5_joinGate_5 : decode cX5_joinGate 5 = .ok (.invokevirtual 71, 3) := by decide +kernel
theorem dX5_joinGate_8 : decode cX5_joinGate 8 = .ok (.if_icmp .ge 167, 3) := by decide +kernel
theorem dX5_joinGate_11 : decode cX5_joinGate 11 = .ok (.iconst 0, 1) := by decide +kernel
theorem dX5_joinGate_12 : decode cX5_joinGate 12 = .ok (.istore_n 3, 1) := by decide +kernel
theorem dX5_joinGate_13 : decode cX5_joinGate 13 = .ok (.iload_n 3, 1) := by decide +kernel
theorem dX5_joinGate_14 : decode cX5_joinGate 14 = .ok (.iconst 2, 1) := by decide +kernel
theorem dX5_joinGate_15 : decode cX5_joinGate 15 = .ok (.if_icmp .ge 154, 3) := by decide +kernel
theorem dX5_joinGate_18 : decode cX5_joinGate 18 = .ok (.iconst (-1), 1) := by decide +kernel
theorem dX5_joinGate_19 : decode cX5_joinGate 19 = .ok (.istore 4, 2) := by decide +kernel
theorem dX5_joinGate_21 : decode cX5_joinGate 21 = .ok (.aload_n 0, 1) := by decide +kernel
theorem dX5_joinGate_22 : decode cX5_joinGate 22 = .ok (.getfield 7, 3) := by decide +kernel
theorem dX5_joinGate_25 : decode cX5_joinGate 25 = .ok (.iload_n 1, 1) := by decide +kernel
theorem dX5_joinGate_26 : decode cX5_joinGate 26 = .ok (.iaload, 1) := by decide +kernel
theorem dX5_joinGate_27 : decode cX5_joinGate 27 = .ok (.tableswitch 113 0 6 #[41, 55, 113, 70, 84, 99, 107], 41) := by decide +kernel
theorem dX5_joinGate_68 : decode cX5_joinGate 68 = .ok (.iload_n 3, 1) := by decide +kernel
theorem dX5_joinGate_69 : decode cX5_joinGate 69 = .ok (.ifCond .ne 7, 3) := by decide +kernel
theorem dX5_joinGate_72 : decode cX5_joinGate 72 = .ok (.iconst 0, 1) := by decide +kernel
theorem dX5_joinGate_73 : decode cX5_joinGate 73 = .ok (.goto 4, 3) := by decide +kernel
theorem dX5_joinGate_76 : decode cX5_joinGate 76 = .ok (.iconst (-1), 1) := by decide +kernel
theorem dX5_joinGate_77 : decode cX5_joinGate 77 = .ok (.istore 4, 2) := by decide +kernel
theorem dX5_joinGate_79 : decode cX5_joinGate 79 = .ok (.goto 61, 3) := by decide +kernel
theorem dX5_joinGate_82 : decode cX5_joinGate 82 = .ok (.iload_n 3, 1) := by decide +kernel
theorem dX5_joinGate_83 : decode cX5_joinGate 83 = .ok (.iconst 1, 1) := by decide +kernel
theorem dX5_joinGate_84 : decode cX5_joinGate 84 = .ok (.if_icmp .ne 7, 3) := by decide +kernel
theorem dX5_joinGate_87 : decode cX5_joinGate 87 = .ok (.iconst 1, 1) := by decide +kernel
theorem dX5_joinGate_88 : decode cX5_joinGate 88 = .ok (.goto 4, 3) := by decide +kernel
theorem dX5_joinGate_91 : decode cX5_joinGate 91 = .ok (.iconst (-1), 1) := by decide +kernel
theorem dX5_joinGate_92 : decode cX5_joinGate 92 = .ok (.istore 4, 2) := by decide +kernel
theorem dX5_joinGate_94 : decode cX5_joinGate 94 = .ok (.goto 46, 3) := by decide +kernel
theorem dX5_joinGate_97 : decode cX5_joinGate 97 = .ok (.iload_n 3, 1) := by decide +kernel
theorem dX5_joinGate_98 : decode cX5_joinGate 98 = .ok (.ifCond .ne 7, 3) := by decide +kernel
theorem dX5_joinGate_101 : decode cX5_joinGate 101 = .ok (.iconst 1, 1) := by decide +kernel
theorem dX5_joinGate_102 : decode cX5_joinGate 102 = .ok (.goto 4, 3) := by decide +kernel
theorem dX5_joinGate_105 : decode cX5_joinGate 105 = .ok (.iconst (-1), 1) := by decide +kernel
theorem dX5_joinGate_106 : decode cX5_joinGate 106 = .ok (.istore 4, 2) := by decide +kernel
theorem dX5_joinGate_108 : decode cX5_joinGate 108 = .ok (.goto 32, 3) := by decide +kernel
theorem dX5_joinGate_111 : decode cX5_joinGate 111 = .ok (.iload_n 3, 1) := by decide +kernel
theorem dX5_joinGate_112 : decode cX5_joinGate 112 = .ok (.iconst 1, 1) := by decide +kernel
theorem dX5_joinGate_113 : decode cX5_joinGate 113 = .ok (.if_icmp .ne 7, 3) := by decide +kernel
theorem dX5_joinGate_116 : decode cX5_joinGate 116 = .ok (.iconst 0, 1) := by decide +kernel
theorem dX5_joinGate_117 : decode cX5_joinGate 117 = .ok (.goto 4, 3) := by decide +kernel
theorem dX5_joinGate_120 : decode cX5_joinGate 120 = .ok (.iconst (-1), 1) := by decide +kernel
theorem dX5_joinGate_121 : decode cX5_joinGate 121 = .ok (.istore 4, 2) := by decide +kernel
theorem dX5_joinGate_123 : decode cX5_joinGate 123 = .ok (.goto 17, 3) := by decide +kernel
theorem dX5_joinGate_126 : decode cX5_joinGate 126 = .ok (.iconst 1, 1) := by decide +kernel
theorem dX5_joinGate_127 : decode cX5_joinGate 127 = .ok (.iload_n 3, 1) := by decide +kernel
theorem dX5_joinGate_128 : decode cX5_joinGate 128 = .ok (.isub, 1) := by decide +kernel
theorem dX5_joinGate_129 : decode cX5_joinGate 129 = .ok (.istore 4, 2) := by decide +kernel
theorem dX5_joinGate_131 : decode cX5_joinGate 131 = .ok (.goto 9, 3) := by decide +kernel
theorem dX5_joinGate_134 : decode cX5_joinGate 134 = .ok (.iload_n 3, 1) := by decide +kernel
theorem dX5_joinGate_135 : decode cX5_joinGate 135 = .ok (.istore 4, 2) := by decide +kernel
theorem dX5_joinGate_137 : decode cX5_joinGate 137 = .ok (.goto 3, 3) := by decide +kernel
theorem dX5_joinGate_140 : decode cX5_joinGate 140 = .ok (.iload 4, 2) := by decide +kernel
theorem dX5_joinGate_142 : decode cX5_joinGate 142 = .ok (.iconst (-1), 1) := by decide +kernel
theorem dX5_joinGate_143 : decode cX5_joinGate 143 = .ok (.if_icmp .eq 20, 3) := by decide +kernel
theorem dX5_joinGate_146 : decode cX5_joinGate 146 = .ok (.aload_n 0, 1) := by decide +kernel
theorem dX5_joinGate_147 : decode cX5_joinGate 147 = .ok (.iload_n 1, 1) := by decide +kernel
theorem dX5_joinGate_148 : decode cX5_joinGate 148 = .ok (.iload_n 2, 1) := by decide +kernel
theorem dX5_joinGate_149 : decode cX5_joinGate 149 = .ok (.iload_n 3, 1) := by decide +kernel
theorem dX5_joinGate_150 : decode cX5_joinGate 150 = .ok (.invokestatic 75, 3) := by decide +kernel
theorem dX5_joinGate_153 : decode cX5_joinGate 153 = .ok (.iload_n 1, 1) := by decide +kernel
theorem dX5_joinGate_154 : decode cX5_joinGate 154 = .ok (.iconst (-1), 1) := by decide +kernel
theorem dX5_joinGate_155 : decode cX5_joinGate 155 = .ok (.iload 4, 2) := by decide +kernel
theorem dX5_joinGate_157 : decode cX5_joinGate 157 = .ok (.invokestatic 75, 3) := by decide +kernel
theorem dX5_joinGate_160 : decode cX5_joinGate 160 = .ok (.invokevirtual 79, 3) := by decide +kernel
theorem dX5_joinGate_163 : decode cX5_joinGate 163 = .ok (.iinc 3 1, 3) := by decide +kernel
theorem dX5_joinGate_166 : decode cX5_joinGate 166 = .ok (.goto (-153), 3) := by decide +kernel
theorem dX5_joinGate_169 : decode cX5_joinGate 169 = .ok (.iinc 2 1, 3) := by decide +kernel
theorem dX5_joinGate_172 : decode cX5_joinGate 172 = .ok (.goto (-170), 3) := by decide +kernel
theorem dX5_joinGate_175 : decode cX5_joinGate 175 = .ok (.return_, 1) := by decide +kernel
set_option maxRecDepth 20000 in
theorem ggX5_joinNet_X5_pinsOf : GoodIn wsX5_joinNet wsX5_pinsOf := goodIn_r _ [8, 9, 24, 25, 26, 27, 28, 29, 30, 31, 32, 33, 34, 35, 36, 37, 38, 39, 40, 41] (by decide +kernel) (by decide +kernel)
set_option maxRecDepth 20000 in
theorem gX5_joinNet_X5_pinsOf : GoodIn wsX5_joinNet (wsV RX5 71 RX5 yX5_pinsOf wsX5_pinsOf) := goodIn_app (goodIn_of _ (by decide +kernel)) ggX5_joinNet_X5_pinsOf
set_option maxRecDepth 20000 in
theorem ggX5_joinNet_X5_takenBy : GoodIn wsX5_joinNet wsX5_takenBy := goodIn_r _ [13, 14, 15, 24, 25, 26, 27, 28, 29, 30, 31, 32, 33, 34, 35, 36, 37, 38, 39, 40, 41] (by decide +kernel) (by decide +kernel)
set_option maxRecDepth 20000 in
theorem gX5_joinNet_X5_takenBy : GoodIn wsX5_joinNet (wsV RX5 83 RX5 yX5_takenBy wsX5_takenBy) := goodIn_app (goodIn_of _ (by decide +kernel)) ggX5_joinNet_X5_takenBy
set_option maxRecDepth 20000 in
theorem ggX5_joinNet_X5_faultOf : GoodIn wsX5_joinNet wsX5_faultOf := goodIn_r _ [18] (by decide +kernel) (by decide +kernel)
set_option maxRecDepth 20000 in
theorem gX5_joinNet_X5_faultOf : GoodIn wsX5_joinNet (va_wsS RX5 75 yX5_faultOf wsX5_faultOf) := goodIn_app (goodIn_of _ (by decide +kernel)) ggX5_joinNet_X5_faultOf
set_option maxRecDepth 20000 in
theorem ggX5_joinNet_X5_put : GoodIn wsX5_joinNet wsX5_put := goodIn_r _ [22, 23, 24, 25, 26, 27, 28, 29, 30, 31, 32, 33, 34, 35, 36, 37, 38, 39, 40, 41] (by decide +kernel) (by decide +kernel)
set_option maxRecDepth 20000 in
theorem gX5_joinNet_X5_put : GoodIn wsX5_joinNet (wsV RX5 79 RX5 yX5_put wsX5_put) := goodIn_app (goodIn_of _ (by decide +kernel)) ggX5_joinNet_X5_put
theorem dX5_joinNet_0 : decode cX5_joinNet 0 = .ok (.iconst 0, 1) := by decide +kernel
theorem dX5_joinNet_1 : decode cX5_joinNet 1 = .ok (.istore_n 2, 1) := by decide +kernel
theorem dX5_joinNet_2 : decode cX5_joinNet 2 = .ok (.iconst 0, 1) := by decide +kernel
theorem dX5_joinNet_3 : decode cX5_joinNet 3 = .ok (.istore_n 3, 1) := by decide +kernel
theorem dX5_joinNet_4 : decode cX5_joinNet 4 = .ok (.iconst 0, 1) := by decide +kernel
theorem dX5_joinNet_5 : decode cX5_joinNet 5 = .ok (.istore 4, 2) := by decide +kernel
theorem dX5_joinNet_7 : decode cX5_joinNet 7 = .ok (.iload 4, 2) := by decide +kernel
theorem dX5_joinNet_9 : decode cX5_joinNet 9 = .ok (.aload_n 0, 1) := by decide +kernel
theorem dX5_joinNet_10 : decode cX5_joinNet 10 = .ok (.getfield 52, 3) := by decide +kernel
theorem dX5_joinNet_13 : decode cX5_joinNet 13 = .ok (.if_icmp .ge 53, 3) := by decide +kernel
theorem dX5_joinNet_16 : decode cX5_joinNet 16 = .ok (.iconst 0, 1) := by decide +kernel
theorem dX5_joinNet_17 : decode cX5_joinNet 17 = .ok (.istore 5, 2) := by decide +kernel
theorem dX5_joinNet_19 : decode cX5_joinNet 19 = .ok (.iload 5, 2) := by decide +kernel
theorem dX5_joinNet_21 : decode cX5_joinNet 21 = .ok (.aload_n 0, 1) := by decide +kernel
theorem dX5_joinNet_22 : decode cX5_joinNet 22 = .ok (.iload 4, 2) := by decide +kernel
theorem dX5_joinNet_24 : decode cX5_joinNet 24 = .ok (.invokevirtual 71, 3) := by decide +kernel
theorem dX5_joinNet_27 : decode cX5_joinNet 27 = .ok (.if_icmp .ge 33, 3) := by decide +kernel
theorem dX5_joinNet_30 : decode cX5_joinNet 30 = .ok (.aload_n 0, 1) := by decide +kernel
theorem dX5_joinNet_31 : decode cX5_joinNet 31 = .ok (.iload 4, 2) := by decide +kernel
theorem dX5_joinNet_33 : decode cX5_joinNet 33 = .ok (.iload 5, 2) := by decide +kernel
theorem dX5_joinNet_35 : decode cX5_joinNet 35 = .ok (.invokevirtual 83, 3) := by decide +kernel
theorem dX5_joinNet_38 : decode cX5_joinNet 38 = .ok (.iload_n 1, 1) := by decide +kernel
theorem dX5_joinNet_39 : decode cX5_joinNet 39 = .ok (.if_icmp .ne 15, 3) := by decide +kernel
theorem dX5_joinNet_42 : decode cX5_joinNet 42 = .ok (.iinc 2 1, 3) := by decide +kernel
theorem dX5_joinNet_45 : decode cX5_joinNet 45 = .ok (.iload 4, 2) := by decide +kernel
theorem dX5_joinNet_47 : decode cX5_joinNet 47 = .ok (.iload 5, 2) := by decide +kernel
theorem dX5_joinNet_49 : decode cX5_joinNet 49 = .ok (.iconst 0, 1) := by decide +kernel
theorem dX5_joinNet_50 : decode cX5_joinNet 50 = .ok (.invokestatic 75, 3) := by decide +kernel
theorem dX5_joinNet_53 : decode cX5_joinNet 53 = .ok (.istore_n 3, 1) := by decide +kernel
theorem dX5_joinNet_54 : decode cX5_joinNet 54 = .ok (.iinc 5 1, 3) := by decide +kernel
theorem dX5_joinNet_57 : decode cX5_joinNet 57 = .ok (.goto (-38), 3) := by decide +kernel
theorem dX5_joinNet_60 : decode cX5_joinNet 60 = .ok (.iinc 4 1, 3) := by decide +kernel
theorem dX5_joinNet_63 : decode cX5_joinNet 63 = .ok (.goto (-56), 3) := by decide +kernel
theorem dX5_joinNet_66 : decode cX5_joinNet 66 = .ok (.iconst 0, 1) := by decide +kernel
theorem dX5_joinNet_67 : decode cX5_joinNet 67 = .ok (.istore 4, 2) := by decide +kernel
theorem dX5_joinNet_69 : decode cX5_joinNet 69 = .ok (.iconst 0, 1) := by decide +kernel
theorem dX5_joinNet_70 : decode cX5_joinNet 70 = .ok (.istore 5, 2) := by decide +kernel
theorem dX5_joinNet_72 : decode cX5_joinNet 72 = .ok (.iload 5, 2) := by decide +kernel
theorem dX5_joinNet_74 : decode cX5_joinNet 74 = .ok (.aload_n 0, 1) := by decide +kernel
theorem dX5_joinNet_75 : decode cX5_joinNet 75 = .ok (.getfield 68, 3) := by decide +kernel
theorem dX5_joinNet_78 : decode cX5_joinNet 78 = .ok (.if_icmp .ge 32, 3) := by decide +kernel
theorem dX5_joinNet_81 : decode cX5_joinNet 81 = .ok (.iload 4, 2) := by decide +kernel
theorem dX5_joinNet_83 : decode cX5_joinNet 83 = .ok (.ifCond .ne 14, 3) := by decide +kernel
theorem dX5_joinNet_86 : decode cX5_joinNet 86 = .ok (.aload_n 0, 1) := by decide +kernel
theorem dX5_joinNet_87 : decode cX5_joinNet 87 = .ok (.getfield 22, 3) := by decide +kernel
theorem dX5_joinNet_90 : decode cX5_joinNet 90 = .ok (.iload 5, 2) := by decide +kernel
theorem dX5_joinNet_92 : decode cX5_joinNet 92 = .ok (.iaload, 1) := by decide +kernel
theorem dX5_joinNet_93 : decode cX5_joinNet 93 = .ok (.iload_n 1, 1) := by decide +kernel
theorem dX5_joinNet_94 : decode cX5_joinNet 94 = .ok (.if_icmp .ne 7, 3) := by decide +kernel
theorem dX5_joinNet_97 : decode cX5_joinNet 97 = .ok (.iconst 1, 1) := by decide +kernel
theorem dX5_joinNet_98 : decode cX5_joinNet 98 = .ok (.goto 4, 3) := by decide +kernel
theorem dX5_joinNet_101 : decode cX5_joinNet 101 = .ok (.iconst 0, 1) := by decide +kernel
theorem dX5_joinNet_102 : decode cX5_joinNet 102 = .ok (.istore 4, 2) := by decide +kernel
theorem dX5_joinNet_104 : decode cX5_joinNet 104 = .ok (.iinc 5 1, 3) := by decide +kernel
theorem dX5_joinNet_107 : decode cX5_joinNet 107 = .ok (.goto (-35), 3) := by decide +kernel
theorem dX5_joinNet_110 : decode cX5_joinNet 110 = .ok (.iload_n 2, 1) := by decide +kernel
theorem dX5_joinNet_111 : decode cX5_joinNet 111 = .ok (.iconst 1, 1) := by decide +kernel
theorem dX5_joinNet_112 : decode cX5_joinNet 112 = .ok (.if_icmp .ne 32, 3) := by decide +kernel
theorem dX5_joinNet_115 : decode cX5_joinNet 115 = .ok (.iload 4, 2) := by decide +kernel
theorem dX5_joinNet_117 : decode cX5_joinNet 117 = .ok (.ifCond .ne 27, 3) := by decide +kernel
theorem dX5_joinNet_120 : decode cX5_joinNet 120 = .ok (.aload_n 0, 1) := by decide +kernel
theorem dX5_joinNet_121 : decode cX5_joinNet 121 = .ok (.iload_n 1, 1) := by decide +kernel
theorem dX5_joinNet_122 : decode cX5_joinNet 122 = .ok (.iconst (-1), 1) := by decide +kernel
theorem dX5_joinNet_123 : decode cX5_joinNet 123 = .ok (.iconst 0, 1) := by decide +kernel
theorem dX5_joinNet_124 : decode cX5_joinNet 124 = .ok (.invokestatic 75, 3) := by decide +kernel
theorem dX5_joinNet_127 : decode cX5_joinNet 127 = .ok (.iload_n 3, 1) := by decide +kernel
theorem dX5_joinNet_128 : decode cX5_joinNet 128 = .ok (.invokevirtual 79, 3) := by decide +kernel
theorem dX5_joinNet_131 : decode cX5_joinNet 131 = .ok (.aload_n 0, 1) := by decide +kernel
theorem dX5_joinNet_132 : decode cX5_joinNet 132 = .ok (.iload_n 1, 1) := by decide +kernel
theorem dX5_joinNet_133 : decode cX5_joinNet 133 = .ok (.iconst (-1), 1) := by decide +kernel
theorem dX5_joinNet_134 : decode cX5_joinNet 134 = .ok (.iconst 1, 1) := by decide +kernel
theorem dX5_joinNet_135 : decode cX5_joinNet 135 = .ok (.invokestatic 75, 3) := by decide +kernel
theorem dX5_joinNet_138 : decode cX5_joinNet 138 = .ok (.iload_n 3, 1) := by decide +kernel
theorem dX5_joinNet_139 : decode cX5_joinNet 139 = .ok (.iconst 1, 1) := by decide +kernel
theorem dX5_joinNet_140 : decode cX5_joinNet 140 = .ok (.iadd, 1) := by decide +kernel
theorem dX5_joinNet_141 : decode cX5_joinNet 141 = .ok (.invokevirtual 79, 3) := by decide +kernel
theorem dX5_joinNet_144 : decode cX5_joinNet 144 = .ok (.return_, 1) := by decide +kernel
set_option maxRecDepth 20000 in
theorem ggX5_build_X5_joinGate : GoodIn wsX5_build wsX5_joinGate := goodIn_r _ [12, 13, 14, 15, 16, 11, 17, 18, 19, 20, 21, 22, 23, 24, 1, 41, 42, 43, 44, 45, 46, 47, 48, 49, 50, 51, 52, 53, 54, 55, 56, 57, 58] (by decide +kernel) (by decide +kernel)
set_option maxRecDepth 20000 in
theorem gX5_build_X5_joinGate : GoodIn wsX5_build (wsV RX5 87 RX5 yX5_joinGate wsX5_joinGate) := goodIn_app (goodIn_of _ (by decide +kernel)) ggX5_build_X5_joinGate
set_option maxRecDepth 20000 in
theorem ggX5_build_X5_joinNet : GoodIn wsX5_build wsX5_joinNet := goodIn_r _ [28, 3, 29, 30, 14, 15, 16, 11, 17, 13, 31, 32, 33, 34, 35, 36, 18, 19, 20, 21, 22, 23, 24, 1, 41, 42, 43, 44, 45, 46, 47, 48, 49, 50, 51, 52, 53, 54, 55, 56, 57, 58] (by decide +kernel) (by decide +kernel)
set_option maxRecDepth 20000 in
theorem gX5_build_X5_joinNet : GoodIn wsX5_build (wsV RX5 91 RX5 yX5_joinNet wsX5_joinNet) := goodIn_app (goodIn_of _ (by decide +kernel)) ggX5_build_X5_joinNet
set_option maxRecDepth 20000 in
theorem ggX5_build_X5_isLine : GoodIn wsX5_build wsX5_isLine := goodIn_r _ [40, 3, 14, 15, 16, 11, 17, 13, 41, 42, 43, 44, 45, 46, 47, 48, 49, 50, 51, 52, 53, 54, 55, 56, 57, 58] (by decide +kernel) (by decide +kernel)
set_option maxRecDepth 20000 in
theorem gX5_build_X5_isLine : GoodIn wsX5_build (wsV RX5 97 RX5 yX5_isLine wsX5_isLine) := goodIn_app (goodIn_of _ (by decide +kernel)) ggX5_build_X5_isLine
theorem dX5_build_0 : decode cX5_build 0 = .ok (.iconst 0, 1) := by decide +kernel
theorem dX5_build_1 : decode cX5_build 1 = .ok (.istore_n 1, 1) := by decide +kernel
theorem dX5_build_2 : decode cX5_build 2 = .ok (.iload_n 1, 1) := by decide +kernel
theorem dX5_build_3 : decode cX5_build 3 = .ok (.sipush 600, 3) := by decide +kernel
theorem dX5_build_6 : decode cX5_build 6 = .ok (.if_icmp .ge 23, 3) := by decide +kernel
theorem dX5_build_9 : decode cX5_build 9 = .ok (.aload_n 0, 1) := by decide +kernel
theorem dX5_build_10 : decode cX5_build 10 = .ok (.getfield 25, 3) := by decide +kernel
theorem dX5_build_13 : decode cX5_build 13 = .ok (.iload_n 1, 1) := by decide +kernel
theorem dX5_build_14 : decode cX5_build 14 = .ok (.iload_n 1, 1) := by decide +kernel
theorem dX5_build_15 : decode cX5_build 15 = .ok (.iastore, 1) := by decide +kernel
theorem dX5_build_16 : decode cX5_build 16 = .ok (.aload_n 0, 1) := by decide +kernel
theorem dX5_build_17 : decode cX5_build 17 = .ok (.getfield 34, 3) := by decide +kernel
theorem dX5_build_20 : decode cX5_build 20 = .ok (.iload_n 1, 1) := by decide +kernel
theorem dX5_build_21 : decode cX5_build 21 = .ok (.iconst 0, 1) := by decide +kernel
theorem dX5_build_22 : decode cX5_build 22 = .ok (.bastore, 1) := by decide +kernel
theorem dX5_build_23 : decode cX5_build 23 = .ok (.iinc 1 1, 3) := by decide +kernel
theorem dX5_build_26 : decode cX5_build 26 = .ok (.goto (-24), 3) := by decide +kernel
theorem dX5_build_29 : decode cX5_build 29 = .ok (.iconst 0, 1) := by decide +kernel
theorem dX5_build_30 : decode cX5_build 30 = .ok (.istore_n 1, 1) := by decide +kernel
theorem dX5_build_31 : decode cX5_build 31 = .ok (.iload_n 1, 1) := by decide +kernel
theorem dX5_build_32 : decode cX5_build 32 = .ok (.aload_n 0, 1) := by decide +kernel
theorem dX5_build_33 : decode cX5_build 33 = .ok (.getfield 52, 3) := by decide +kernel
theorem dX5_build_36 : decode cX5_build 36 = .ok (.if_icmp .ge 19, 3) := by decide +kernel
theorem dX5_build_39 : decode cX5_build 39 = .ok (.aload_n 0, 1) := by decide +kernel
theorem dX5_build_40 : decode cX5_build 40 = .ok (.iload_n 1, 1) := by decide +kernel
theorem dX5_build_41 : decode cX5_build 41 = .ok (.invokevirtual 87, 3) := by decide +kernel
theorem dX5_build_44 : decode cX5_build 44 = .ok (.aload_n 0, 1) := by decide +kernel
theorem dX5_build_45 : decode cX5_build 45 = .ok (.iload_n 1, 1) := by decide +kernel
theorem dX5_build_46 : decode cX5_build 46 = .ok (.invokevirtual 91, 3) := by decide +kernel
theorem dX5_build_49 : decode cX5_build 49 = .ok (.iinc 1 1, 3) := by decide +kernel
theorem dX5_build_52 : decode cX5_build 52 = .ok (.goto (-21), 3) := by decide +kernel
theorem dX5_build_55 : decode cX5_build 55 = .ok (.aload_n 0, 1) := by decide +kernel
theorem dX5_build_56 : decode cX5_build 56 = .ok (.iconst 0, 1) := by decide +kernel
theorem dX5_build_57 : decode cX5_build 57 = .ok (.putfield 94, 3) := by decide +kernel
theorem dX5_build_60 : decode cX5_build 60 = .ok (.iconst 0, 1) := by decide +kernel
theorem dX5_build_61 : decode cX5_build 61 = .ok (.istore_n 1, 1) := by decide +kernel
theorem dX5_build_62 : decode cX5_build 62 = .ok (.iload_n 1, 1) := by decide +kernel
theorem dX5_build_63 : decode cX5_build 63 = .ok (.sipush 600, 3) := by decide +kernel
theorem dX5_build_66 : decode cX5_build 66 = .ok (.if_icmp .ge 77, 3) := by decide +kernel
theorem dX5_build_69 : decode cX5_build 69 = .ok (.aload_n 0, 1) := by decide +kernel
theorem dX5_build_70 : decode cX5_build 70 = .ok (.iload_n 1, 1) := by decide +kernel
theorem dX5_build_71 : decode cX5_build 71 = .ok (.invokevirtual 97, 3) := by decide +kernel
theorem dX5_build_74 : decode cX5_build 74 = .ok (.ifCond .eq 63, 3) := by decide +kernel
theorem dX5_build_77 : decode cX5_build 77 = .ok (.aload_n 0, 1) := by decide +kernel
theorem dX5_build_78 : decode cX5_build 78 = .ok (.getfield 25, 3) := by decide +kernel
theorem dX5_build_81 : decode cX5_build 81 = .ok (.iload_n 1, 1) := by decide +kernel
theorem dX5_build_82 : decode cX5_build 82 = .ok (.iaload, 1) := by decide +kernel
theorem dX5_build_83 : decode cX5_build 83 = .ok (.iload_n 1, 1) := by decide +kernel
theorem dX5_build_84 : decode cX5_build 84 = .ok (.if_icmp .ne 36, 3) := by decide +kernel
theorem dX5_build_87 : decode cX5_build 87 = .ok (.aload_n 0, 1) := by decide +kernel
theorem dX5_build_88 : decode cX5_build 88 = .ok (.getfield 28, 3) := by decide +kernel
theorem dX5_build_91 : decode cX5_build 91 = .ok (.aload_n 0, 1) := by decide +kernel
theorem dX5_build_92 : decode cX5_build 92 = .ok (.getfield 94, 3) := by decide +kernel
theorem dX5_build_95 : decode cX5_build 95 = .ok (.iload_n 1, 1) := by decide +kernel
theorem dX5_build_96 : decode cX5_build 96 = .ok (.iastore, 1) := by decide +kernel
theorem dX5_build_97 : decode cX5_build 97 = .ok (.aload_n 0, 1) := by decide +kernel
theorem dX5_build_98 : decode cX5_build 98 = .ok (.getfield 31, 3) := by decide +kernel
theorem dX5_build_101 : decode cX5_build 101 = .ok (.iload_n 1, 1) := by decide +kernel
theorem dX5_build_102 : decode cX5_build 102 = .ok (.aload_n 0, 1) := by decide +kernel
theorem dX5_build_103 : decode cX5_build 103 = .ok (.getfield 94, 3) := by decide +kernel
theorem dX5_build_106 : decode cX5_build 106 = .ok (.iastore, 1) := by decide +kernel
theorem dX5_build_107 : decode cX5_build 107 = .ok (.aload_n 0, 1) := by decide +kernel
theorem dX5_build_108 : decode cX5_build 108 = .ok (.dup, 1) := by decide +kernel
theorem dX5_build_109 : decode cX5_build 109 = .ok (.getfield 94, 3) := by decide +kernel
theorem dX5_build_112 : decode cX5_build 112 = .ok (.iconst 1, 1) := by decide +kernel
theorem dX5_build_113 : decode cX5_build 113 = .ok (.iadd, 1) := by decide +kernel
theorem dX5_build_114 : decode cX5_build 114 = .ok (.putfield 94, 3) := by decide +kernel
theorem dX5_build_117 : decode cX5_build 117 = .ok (.goto 20, 3) := by decide +kernel
theorem dX5_build_120 : decode cX5_build 120 = .ok (.aload_n 0, 1) := by decide +kernel
theorem dX5_build_121 : decode cX5_build 121 = .ok (.getfield 31, 3) := by decide +kernel
theorem dX5_build_124 : decode cX5_build 124 = .ok (.iload_n 1, 1) := by decide +kernel
theorem dX5_build_125 : decode cX5_build 125 = .ok (.aload_n 0, 1) := by decide +kernel
theorem dX5_build_126 : decode cX5_build 126 = .ok (.getfield 31, 3) := by decide +kernel
theorem dX5_build_129 : decode cX5_build 129 = .ok (.aload_n 0, 1) := by decide +kernel
theorem dX5_build_130 : decode cX5_build 130 = .ok (.getfield 25, 3) := by decide +kernel
theorem dX5_build_133 : decode cX5_build 133 = .ok (.iload_n 1, 1) := by decide +kernel
theorem dX5_build_134 : decode cX5_build 134 = .ok (.iaload, 1) := by decide +kernel
theorem dX5_build_135 : decode cX5_build 135 = .ok (.iaload, 1) := by decide +kernel
theorem dX5_build_136 : decode cX5_build 136 = .ok (.iastore, 1) := by decide +kernel
theorem dX5_build_137 : decode cX5_build 137 = .ok (.iinc 1 1, 3) := by decide +kernel
theorem dX5_build_140 : decode cX5_build 140 = .ok (.goto (-78), 3) := by decide +kernel
theorem dX5_build_143 : decode cX5_build 143 = .ok (.aload_n 0, 1) := by decide +kernel
theorem dX5_build_144 : decode cX5_build 144 = .ok (.iconst 0, 1) := by decide +kernel
theorem dX5_build_145 : decode cX5_build 145 = .ok (.putfield 100, 3) := by decide +kernel
theorem dX5_build_148 : decode cX5_build 148 = .ok (.return_, 1) := by decide +kernel
theorem dX5_isClass_0 : decode cX5_isClass 0 = .ok (.iload_n 1, 1) := by decide +kernel
theorem dX5_isClass_1 : decode cX5_isClass 1 = .ok (.ifCond .lt 15, 3) := by decide +kernel
theorem dX5_isClass_4 : decode cX5_isClass 4 = .ok (.iload_n 1, 1) := by decide +kernel
theorem dX5_isClass_5 : decode cX5_isClass 5 = .ok (.aload_n 0, 1) := by decide +kernel
theorem dX5_isClass_6 : decode cX5_isClass 6 = .ok (.getfield 94, 3) := by decide +kernel
theorem dX5_isClass_9 : decode cX5_isClass 9 = .ok (.if_icmp .ge 7, 3) := by decide +kernel
theorem dX5_isClass_12 : decode cX5_isClass 12 = .ok (.iconst 1, 1) := by decide +kernel
theorem dX5_isClass_13 : decode cX5_isClass 13 = .ok (.goto 4, 3) := by decide +kernel
theorem dX5_isClass_16 : decode cX5_isClass 16 = .ok (.iconst 0, 1) := by decide +kernel
theorem dX5_isClass_17 : decode cX5_isClass 17 = .ok (.ireturn, 1) := by decide +kernel
theorem dX5_faults_0 : decode cX5_faults 0 = .ok (.aload_n 0, 1) := by decide +kernel
theorem dX5_faults_1 : decode cX5_faults 1 = .ok (.iconst 0, 1) := by decide +kernel
theorem dX5_faults_2 : decode cX5_faults 2 = .ok (.putfield 48, 3) := by decide +kernel
theorem dX5_faults_5 : decode cX5_faults 5 = .ok (.aload_n 0, 1) := by decide +kernel
theorem dX5_faults_6 : decode cX5_faults 6 = .ok (.getfield 94, 3) := by decide +kernel
theorem dX5_faults_9 : decode cX5_faults 9 = .ok (.ireturn, 1) := by decide +kernel
set_option maxRecDepth 20000 in
theorem ggX5_fault_X5_isClass : GoodIn wsX5_fault wsX5_isClass := goodIn_r _ [7, 8, 24, 25, 26, 27, 28, 29, 30, 31, 32, 33, 34, 35, 36, 37, 38, 39, 40, 41] (by decide +kernel) (by decide +kernel)
set_option maxRecDepth 20000 in
theorem gX5_fault_X5_isClass : GoodIn wsX5_fault (wsV RX5 103 RX5 yX5_isClass wsX5_isClass) := goodIn_app (goodIn_of _ (by decide +kernel)) ggX5_fault_X5_isClass
set_option maxRecDepth 20000 in
theorem ggX5_fault_X5_refuses : GoodIn wsX5_fault wsX5_refuses := goodIn_r _ [12, 13, 24, 25, 26, 27, 28, 29, 30, 31, 32, 33, 34, 35, 36, 37, 38, 39, 40, 41] (by decide +kernel) (by decide +kernel)
set_option maxRecDepth 20000 in
theorem gX5_fault_X5_refuses : GoodIn wsX5_fault (wsV RX5 58 RX5 yX5_refuses wsX5_refuses) := goodIn_app (goodIn_of _ (by decide +kernel)) ggX5_fault_X5_refuses
set_option maxRecDepth 20000 in
theorem ggX5_fault_X5_isLine : GoodIn wsX5_fault wsX5_isLine := goodIn_r _ [17, 18, 19, 20, 21, 6, 22, 23, 24, 25, 26, 27, 28, 29, 30, 31, 32, 33, 34, 35, 36, 37, 38, 39, 40, 41] (by decide +kernel) (by decide +kernel)
set_option maxRecDepth 20000 in
theorem gX5_fault_X5_isLine : GoodIn wsX5_fault (wsV RX5 97 RX5 yX5_isLine wsX5_isLine) := goodIn_app (goodIn_of _ (by decide +kernel)) ggX5_fault_X5_isLine
theorem dX5_fault_0 : decode cX5_fault 0 = .ok (.aload_n 0, 1) := by decide +kernel
theorem dX5_fault_1 : decode cX5_fault 1 = .ok (.aload_n 0, 1) := by decide +kernel
theorem dX5_fault_2 : decode cX5_fault 2 = .ok (.iload_n 1, 1) := by decide +kernel
theorem dX5_fault_3 : decode cX5_fault 3 = .ok (.invokevirtual 103, 3) := by decide +kernel
theorem dX5_fault_6 : decode cX5_fault 6 = .ok (.ifCond .eq 12, 3) := by decide +kernel
theorem dX5_fault_9 : decode cX5_fault 9 = .ok (.iload_n 2, 1) := by decide +kernel
theorem dX5_fault_10 : decode cX5_fault 10 = .ok (.ifCond .lt 8, 3) := by decide +kernel
theorem dX5_fault_13 : decode cX5_fault 13 = .ok (.iload_n 2, 1) := by decide +kernel
theorem dX5_fault_14 : decode cX5_fault 14 = .ok (.iconst 3, 1) := by decide +kernel
theorem dX5_fault_15 : decode cX5_fault 15 = .ok (.if_icmp .le 7, 3) := by decide +kernel
theorem dX5_fault_18 : decode cX5_fault 18 = .ok (.iconst 1, 1) := by decide +kernel
theorem dX5_fault_19 : decode cX5_fault 19 = .ok (.goto 4, 3) := by decide +kernel
theorem dX5_fault_22 : decode cX5_fault 22 = .ok (.iconst 0, 1) := by decide +kernel
theorem dX5_fault_23 : decode cX5_fault 23 = .ok (.invokevirtual 58, 3) := by decide +kernel
theorem dX5_fault_26 : decode cX5_fault 26 = .ok (.ifCond .eq 5, 3) := by decide +kernel
