theorem dX5_fault_29 : decode cX5_fault 29 = .ok (.iconst 0, 1) := by decide +kernel
theorem dX5_fault_30 : decode cX5_fault 30 = .ok (.ireturn, 1) := by decide +kernel
theorem dX5_fault_31 : decode cX5_fault 31 = .ok (.aload_n 0, 1) := by decide +kernel
theorem dX5_fault_32 : decode cX5_fault 32 = .ok (.getfield 28, 3) := by decide +kernel
theorem dX5_fault_35 : decode cX5_fault 35 = .ok (.iload_n 1, 1) := by decide +kernel
theorem dX5_fault_36 : decode cX5_fault 36 = .ok (.iaload, 1) := by decide +kernel
theorem dX5_fault_37 : decode cX5_fault 37 = .ok (.istore_n 3, 1) := by decide +kernel
theorem dX5_fault_38 : decode cX5_fault 38 = .ok (.iload_n 2, 1) := by decide +kernel
theorem dX5_fault_39 : decode cX5_fault 39 = .ok (.iconst 3, 1) := by decide +kernel
theorem dX5_fault_40 : decode cX5_fault 40 = .ok (.if_icmp .ge 34, 3) := by decide +kernel
theorem dX5_fault_43 : decode cX5_fault 43 = .ok (.iload_n 2, 1) := by decide +kernel
theorem dX5_fault_44 : decode cX5_fault 44 = .ok (.ifCond .ne 10, 3) := by decide +kernel
theorem dX5_fault_47 : decode cX5_fault 47 = .ok (.iload_n 3, 1) := by decide +kernel
theorem dX5_fault_48 : decode cX5_fault 48 = .ok (.bipush 6, 2) := by decide +kernel
theorem dX5_fault_50 : decode cX5_fault 50 = .ok (.idiv, 1) := by decide +kernel
theorem dX5_fault_51 : decode cX5_fault 51 = .ok (.goto 22, 3) := by decide +kernel
theorem dX5_fault_54 : decode cX5_fault 54 = .ok (.iload_n 2, 1) := by decide +kernel
theorem dX5_fault_55 : decode cX5_fault 55 = .ok (.iconst 1, 1) := by decide +kernel
theorem dX5_fault_56 : decode cX5_fault 56 = .ok (.if_icmp .ne 14, 3) := by decide +kernel
theorem dX5_fault_59 : decode cX5_fault 59 = .ok (.iload_n 3, 1) := by decide +kernel
theorem dX5_fault_60 : decode cX5_fault 60 = .ok (.bipush 6, 2) := by decide +kernel
theorem dX5_fault_62 : decode cX5_fault 62 = .ok (.irem, 1) := by decide +kernel
theorem dX5_fault_63 : decode cX5_fault 63 = .ok (.iconst 2, 1) := by decide +kernel
theorem dX5_fault_64 : decode cX5_fault 64 = .ok (.idiv, 1) := by decide +kernel
theorem dX5_fault_65 : decode cX5_fault 65 = .ok (.iconst 1, 1) := by decide +kernel
theorem dX5_fault_66 : decode cX5_fault 66 = .ok (.isub, 1) := by decide +kernel
theorem dX5_fault_67 : decode cX5_fault 67 = .ok (.goto 6, 3) := by decide +kernel
theorem dX5_fault_70 : decode cX5_fault 70 = .ok (.iload_n 3, 1) := by decide +kernel
theorem dX5_fault_71 : decode cX5_fault 71 = .ok (.iconst 2, 1) := by decide +kernel
theorem dX5_fault_72 : decode cX5_fault 72 = .ok (.irem, 1) := by decide +kernel
theorem dX5_fault_73 : decode cX5_fault 73 = .ok (.ireturn, 1) := by decide +kernel
theorem dX5_fault_74 : decode cX5_fault 74 = .ok (.iconst 0, 1) := by decide +kernel
theorem dX5_fault_75 : decode cX5_fault 75 = .ok (.istore 4, 2) := by decide +kernel
theorem dX5_fault_77 : decode cX5_fault 77 = .ok (.iconst 0, 1) := by decide +kernel
theorem dX5_fault_78 : decode cX5_fault 78 = .ok (.istore 5, 2) := by decide +kernel
theorem dX5_fault_80 : decode cX5_fault 80 = .ok (.iload 5, 2) := by decide +kernel
theorem dX5_fault_82 : decode cX5_fault 82 = .ok (.sipush 600, 3) := by decide +kernel
theorem dX5_fault_85 : decode cX5_fault 85 = .ok (.if_icmp .ge 39, 3) := by decide +kernel
theorem dX5_fault_88 : decode cX5_fault 88 = .ok (.iload 4, 2) := by decide +kernel
theorem dX5_fault_90 : decode cX5_fault 90 = .ok (.aload_n 0, 1) := by decide +kernel
theorem dX5_fault_91 : decode cX5_fault 91 = .ok (.iload 5, 2) := by decide +kernel
theorem dX5_fault_93 : decode cX5_fault 93 = .ok (.invokevirtual 97, 3) := by decide +kernel
theorem dX5_fault_96 : decode cX5_fault 96 = .ok (.ifCond .eq 18, 3) := by decide +kernel
theorem dX5_fault_99 : decode cX5_fault 99 = .ok (.aload_n 0, 1) := by decide +kernel
theorem dX5_fault_100 : decode cX5_fault 100 = .ok (.getfield 31, 3) := by decide +kernel
theorem dX5_fault_103 : decode cX5_fault 103 = .ok (.iload 5, 2) := by decide +kernel
theorem dX5_fault_105 : decode cX5_fault 105 = .ok (.iaload, 1) := by decide +kernel
theorem dX5_fault_106 : decode cX5_fault 106 = .ok (.iload_n 1, 1) := by decide +kernel
theorem dX5_fault_107 : decode cX5_fault 107 = .ok (.if_icmp .ne 7, 3) := by decide +kernel
theorem dX5_fault_110 : decode cX5_fault 110 = .ok (.iconst 1, 1) := by decide +kernel
theorem dX5_fault_111 : decode cX5_fault 111 = .ok (.goto 4, 3) := by decide +kernel
theorem dX5_fault_114 : decode cX5_fault 114 = .ok (.iconst 0, 1) := by decide +kernel
theorem dX5_fault_115 : decode cX5_fault 115 = .ok (.iadd, 1) := by decide +kernel
theorem dX5_fault_116 : decode cX5_fault 116 = .ok (.istore 4, 2) := by decide +kernel
theorem dX5_fault_118 : decode cX5_fault 118 = .ok (.iinc 5 1, 3) := by decide +kernel
theorem dX5_fault_121 : decode cX5_fault 121 = .ok (.goto (-41), 3) := by decide +kernel
theorem dX5_fault_124 : decode cX5_fault 124 = .ok (.iload 4, 2) := by decide +kernel
theorem dX5_fault_126 : decode cX5_fault 126 = .ok (.ireturn, 1) := by decide +kernel
set_option maxRecDepth 20000 in
theorem ggX5_classOf_X5_isNet : GoodIn wsX5_classOf wsX5_isNet := goodIn_r _ [6, 7, 21, 22, 23, 24, 25, 26, 27, 28, 29, 30, 31, 32, 33, 34, 35, 36, 37, 38] (by decide +kernel) (by decide +kernel)
set_option maxRecDepth 20000 in
theorem gX5_classOf_X5_isNet : GoodIn wsX5_classOf (wsV RX5 65 RX5 yX5_isNet wsX5_isNet) := goodIn_app (goodIn_of _ (by decide +kernel)) ggX5_classOf_X5_isNet
set_option maxRecDepth 20000 in
theorem ggX5_classOf_X5_pinsOf : GoodIn wsX5_classOf wsX5_pinsOf := goodIn_r _ [11, 12, 21, 22, 23, 24, 25, 26, 27, 28, 29, 30, 31, 32, 33, 34, 35, 36, 37, 38] (by decide +kernel) (by decide +kernel)
set_option maxRecDepth 20000 in
theorem gX5_classOf_X5_pinsOf : GoodIn wsX5_classOf (wsV RX5 71 RX5 yX5_pinsOf wsX5_pinsOf) := goodIn_app (goodIn_of _ (by decide +kernel)) ggX5_classOf_X5_pinsOf
set_option maxRecDepth 20000 in
theorem ggX5_classOf_X5_refuses : GoodIn wsX5_classOf wsX5_refuses := goodIn_r _ [16, 17, 21, 22, 23, 24, 25, 26, 27, 28, 29, 30, 31, 32, 33, 34, 35, 36, 37, 38] (by decide +kernel) (by decide +kernel)
set_option maxRecDepth 20000 in
theorem gX5_classOf_X5_refuses : GoodIn wsX5_classOf (wsV RX5 58 RX5 yX5_refuses wsX5_refuses) := goodIn_app (goodIn_of _ (by decide +kernel)) ggX5_classOf_X5_refuses
set_option maxRecDepth 20000 in
theorem ggX5_classOf_X5_faultOf : GoodIn wsX5_classOf wsX5_faultOf := goodIn_r _ [20] (by decide +kernel) (by decide +kernel)
set_option maxRecDepth 20000 in
theorem gX5_classOf_X5_faultOf : GoodIn wsX5_classOf (va_wsS RX5 75 yX5_faultOf wsX5_faultOf) := goodIn_app (goodIn_of _ (by decide +kernel)) ggX5_classOf_X5_faultOf
theorem dX5_classOf_0 : decode cX5_classOf 0 = .ok (.aload_n 0, 1) := by decide +kernel
theorem dX5_classOf_1 : decode cX5_classOf 1 = .ok (.iload_n 1, 1) := by decide +kernel
theorem dX5_classOf_2 : decode cX5_classOf 2 = .ok (.invokevirtual 65, 3) := by decide +kernel
theorem dX5_classOf_5 : decode cX5_classOf 5 = .ok (.ifCond .eq 26, 3) := by decide +kernel
theorem dX5_classOf_8 : decode cX5_classOf 8 = .ok (.iload_n 2, 1) := by decide +kernel
theorem dX5_classOf_9 : decode cX5_classOf 9 = .ok (.iconst (-1), 1) := by decide +kernel
theorem dX5_classOf_10 : decode cX5_classOf 10 = .ok (.if_icmp .lt 21, 3) := by decide +kernel
theorem dX5_classOf_13 : decode cX5_classOf 13 = .ok (.iload_n 2, 1) := by decide +kernel
theorem dX5_classOf_14 : decode cX5_classOf 14 = .ok (.iconst 2, 1) := by decide +kernel
theorem dX5_classOf_15 : decode cX5_classOf 15 = .ok (.if_icmp .ge 16, 3) := by decide +kernel
theorem dX5_classOf_18 : decode cX5_classOf 18 = .ok (.iload_n 3, 1) := by decide +kernel
theorem dX5_classOf_19 : decode cX5_classOf 19 = .ok (.ifCond .eq 8, 3) := by decide +kernel
theorem dX5_classOf_22 : decode cX5_classOf 22 = .ok (.iload_n 3, 1) := by decide +kernel
theorem dX5_classOf_23 : decode cX5_classOf 23 = .ok (.iconst 1, 1) := by decide +kernel
theorem dX5_classOf_24 : decode cX5_classOf 24 = .ok (.if_icmp .ne 7, 3) := by decide +kernel
theorem dX5_classOf_27 : decode cX5_classOf 27 = .ok (.iconst 1, 1) := by decide +kernel
theorem dX5_classOf_28 : decode cX5_classOf 28 = .ok (.goto 4, 3) := by decide +kernel
theorem dX5_classOf_31 : decode cX5_classOf 31 = .ok (.iconst 0, 1) := by decide +kernel
theorem dX5_classOf_32 : decode cX5_classOf 32 = .ok (.istore 4, 2) := by decide +kernel
theorem dX5_classOf_34 : decode cX5_classOf 34 = .ok (.aload_n 0, 1) := by decide +kernel
theorem dX5_classOf_35 : decode cX5_classOf 35 = .ok (.iload 4, 2) := by decide +kernel
theorem dX5_classOf_37 : decode cX5_classOf 37 = .ok (.ifCond .eq 12, 3) := by decide +kernel
theorem dX5_classOf_40 : decode cX5_classOf 40 = .ok (.iload_n 2, 1) := by decide +kernel
theorem dX5_classOf_41 : decode cX5_classOf 41 = .ok (.aload_n 0, 1) := by decide +kernel
theorem dX5_classOf_42 : decode cX5_classOf 42 = .ok (.iload_n 1, 1) := by decide +kernel
theorem dX5_classOf_43 : decode cX5_classOf 43 = .ok (.invokevirtual 71, 3) := by decide +kernel
theorem dX5_classOf_46 : decode cX5_classOf 46 = .ok (.if_icmp .lt 7, 3) := by decide +kernel
theorem dX5_classOf_49 : decode cX5_classOf 49 = .ok (.iconst 1, 1) := by decide +kernel
theorem dX5_classOf_50 : decode cX5_classOf 50 = .ok (.goto 4, 3) := by decide +kernel
theorem dX5_classOf_53 : decode cX5_classOf 53 = .ok (.iconst 0, 1) := by decide +kernel
theorem dX5_classOf_54 : decode cX5_classOf 54 = .ok (.invokevirtual 58, 3) := by decide +kernel
theorem dX5_classOf_57 : decode cX5_classOf 57 = .ok (.ifCond .eq 5, 3) := by decide +kernel
theorem dX5_classOf_60 : decode cX5_classOf 60 = .ok (.iconst 0, 1) := by decide +kernel
theorem dX5_classOf_61 : decode cX5_classOf 61 = .ok (.ireturn, 1) := by decide +kernel
theorem dX5_classOf_62 : decode cX5_classOf 62 = .ok (.aload_n 0, 1) := by decide +kernel
theorem dX5_classOf_63 : decode cX5_classOf 63 = .ok (.getfield 31, 3) := by decide +kernel
theorem dX5_classOf_66 : decode cX5_classOf 66 = .ok (.iload_n 1, 1) := by decide +kernel
theorem dX5_classOf_67 : decode cX5_classOf 67 = .ok (.iload_n 2, 1) := by decide +kernel
theorem dX5_classOf_68 : decode cX5_classOf 68 = .ok (.iload_n 3, 1) := by decide +kernel
theorem dX5_classOf_69 : decode cX5_classOf 69 = .ok (.invokestatic 75, 3) := by decide +kernel
theorem dX5_classOf_72 : decode cX5_classOf 72 = .ok (.iaload, 1) := by decide +kernel
theorem dX5_classOf_73 : decode cX5_classOf 73 = .ok (.ireturn, 1) := by decide +kernel
theorem dX5_inputAt_0 : decode cX5_inputAt 0 = .ok (.iload_n 0, 1) := by decide +kernel
theorem dX5_inputAt_1 : decode cX5_inputAt 1 = .ok (.tableswitch 63 0 5 #[39, 43, 47, 51, 55, 59], 39) := by decide +kernel
theorem dX5_inputAt_40 : decode cX5_inputAt 40 = .ok (.ldc2_w 106, 3) := by decide +kernel
theorem dX5_inputAt_43 : decode cX5_inputAt 43 = .ok (.lreturn, 1) := by decide +kernel
theorem dX5_inputAt_44 : decode cX5_inputAt 44 = .ok (.ldc2_w 108, 3) := by decide +kernel
theorem dX5_inputAt_47 : decode cX5_inputAt 47 = .ok (.lreturn, 1) := by decide +kernel
theorem dX5_inputAt_48 : decode cX5_inputAt 48 = .ok (.ldc2_w 110, 3) := by decide +kernel
theorem dX5_inputAt_51 : decode cX5_inputAt 51 = .ok (.lreturn, 1) := by decide +kernel
theorem dX5_inputAt_52 : decode cX5_inputAt 52 = .ok (.ldc2_w 112, 3) := by decide +kernel
theorem dX5_inputAt_55 : decode cX5_inputAt 55 = .ok (.lreturn, 1) := by decide +kernel
theorem dX5_inputAt_56 : decode cX5_inputAt 56 = .ok (.ldc2_w 114, 3) := by decide +kernel
theorem dX5_inputAt_59 : decode cX5_inputAt 59 = .ok (.lreturn, 1) := by decide +kernel
theorem dX5_inputAt_60 : decode cX5_inputAt 60 = .ok (.ldc2_w 116, 3) := by decide +kernel
theorem dX5_inputAt_63 : decode cX5_inputAt 63 = .ok (.lreturn, 1) := by decide +kernel
theorem dX5_inputAt_64 : decode cX5_inputAt 64 = .ok (.iload_n 1, 1) := by decide +kernel
theorem dX5_inputAt_65 : decode cX5_inputAt 65 = .ok (.iload_n 0, 1) := by decide +kernel
theorem dX5_inputAt_66 : decode cX5_inputAt 66 = .ok (.bipush 6, 2) := by decide +kernel
theorem dX5_inputAt_68 : decode cX5_inputAt 68 = .ok (.isub, 1) := by decide +kernel
theorem dX5_inputAt_69 : decode cX5_inputAt 69 = .ok (.ishr, 1) := by decide +kernel
theorem dX5_inputAt_70 : decode cX5_inputAt 70 = .ok (.iconst 1, 1) := by decide +kernel
theorem dX5_inputAt_71 : decode cX5_inputAt 71 = .ok (.iand, 1) := by decide +kernel
theorem dX5_inputAt_72 : decode cX5_inputAt 72 = .ok (.iconst 1, 1) := by decide +kernel
theorem dX5_inputAt_73 : decode cX5_inputAt 73 = .ok (.if_icmp .ne 9, 3) := by decide +kernel
theorem dX5_inputAt_76 : decode cX5_inputAt 76 = .ok (.ldc2_w 118, 3) := by decide +kernel
theorem dX5_inputAt_79 : decode cX5_inputAt 79 = .ok (.goto 4, 3) := by decide +kernel
theorem dX5_inputAt_82 : decode cX5_inputAt 82 = .ok (.lconst 0, 1) := by decide +kernel
theorem dX5_inputAt_83 : decode cX5_inputAt 83 = .ok (.lreturn, 1) := by decide +kernel
theorem dX5_gateOf_0 : decode cX5_gateOf 0 = .ok (.iload_n 0, 1) := by decide +kernel
theorem dX5_gateOf_1 : decode cX5_gateOf 1 = .ok (.tableswitch 73 0 5 #[39, 43, 47, 51, 59, 67], 39) := by decide +kernel
theorem dX5_gateOf_40 : decode cX5_gateOf 40 = .ok (.lload_n 1, 1) := by decide +kernel
theorem dX5_gateOf_41 : decode cX5_gateOf 41 = .ok (.lload_n 3, 1) := by decide +kernel
theorem dX5_gateOf_42 : decode cX5_gateOf 42 = .ok (.land, 1) := by decide +kernel
theorem dX5_gateOf_43 : decode cX5_gateOf 43 = .ok (.lreturn, 1) := by decide +kernel
theorem dX5_gateOf_44 : decode cX5_gateOf 44 = .ok (.lload_n 1, 1) := by decide +kernel
theorem dX5_gateOf_45 : decode cX5_gateOf 45 = .ok (.lload_n 3, 1) := by decide +kernel
theorem dX5_gateOf_46 : decode cX5_gateOf 46 = .ok (.lor, 1) := by decide +kernel
theorem dX5_gateOf_47 : decode cX5_gateOf 47 = .ok (.lreturn, 1) := by decide +kernel
theorem dX5_gateOf_48 : decode cX5_gateOf 48 = .ok (.lload_n 1, 1) := by decide +kernel
theorem dX5_gateOf_49 : decode cX5_gateOf 49 = .ok (.lload_n 3, 1) := by decide +kernel
theorem dX5_gateOf_50 : decode cX5_gateOf 50 = .ok (.lxor, 1) := by decide +kernel
theorem dX5_gateOf_51 : decode cX5_gateOf 51 = .ok (.lreturn, 1) := by decide +kernel
theorem dX5_gateOf_52 : decode cX5_gateOf 52 = .ok (.lload_n 1, 1) := by decide +kernel
theorem dX5_gateOf_53 : decode cX5_gateOf 53 = .ok (.lload_n 3, 1) := by decide +kernel
theorem dX5_gateOf_54 : decode cX5_gateOf 54 = .ok (.land, 1) := by decide +kernel
theorem dX5_gateOf_55 : decode cX5_gateOf 55 = .ok (.ldc2_w 118, 3) := by decide +kernel
theorem dX5_gateOf_58 : decode cX5_gateOf 58 = .ok (.lxor, 1) := by decide +kernel
theorem dX5_gateOf_59 : decode cX5_gateOf 59 = .ok (.lreturn, 1) := by decide +kernel
theorem dX5_gateOf_60 : decode cX5_gateOf 60 = .ok (.lload_n 1, 1) := by decide +kernel
theorem dX5_gateOf_61 : decode cX5_gateOf 61 = .ok (.lload_n 3, 1) := by decide +kernel
theorem dX5_gateOf_62 : decode cX5_gateOf 62 = .ok (.lor, 1) := by decide +kernel
theorem dX5_gateOf_63 : decode cX5_gateOf 63 = .ok (.ldc2_w 118, 3) := by decide +kernel
theorem dX5_gateOf_66 : decode cX5_gateOf 66 = .ok (.lxor, 1) := by decide +kernel
theorem dX5_gateOf_67 : decode cX5_gateOf 67 = .ok (.lreturn, 1) := by decide +kernel
theorem dX5_gateOf_68 : decode cX5_gateOf 68 = .ok (.lload_n 1, 1) := by decide +kernel
theorem dX5_gateOf_69 : decode cX5_gateOf 69 = .ok (.ldc2_w 118, 3) := by decide +kernel
theorem dX5_gateOf_72 : decode cX5_gateOf 72 = .ok (.lxor, 1) := by decide +kernel
theorem dX5_gateOf_73 : decode cX5_gateOf 73 = .ok (.lreturn, 1) := by decide +kernel
theorem dX5_gateOf_74 : decode cX5_gateOf 74 = .ok (.lload_n 1, 1) := by decide +kernel
theorem dX5_gateOf_75 : decode cX5_gateOf 75 = .ok (.lreturn, 1) := by decide +kernel
set_option maxRecDepth 20000 in
theorem ggX5_tell_X5_inputAt : GoodIn wsX5_tell wsX5_inputAt := goodIn_r _ [10, 11, 12, 13, 14, 15, 16, 1] (by decide +kernel) (by decide +kernel)
set_option maxRecDepth 20000 in
theorem gX5_tell_X5_inputAt : GoodIn wsX5_tell (va_wsS RX5 120 yX5_inputAt wsX5_inputAt) := goodIn_app (goodIn_of _ (by decide +kernel)) ggX5_tell_X5_inputAt
set_option maxRecDepth 20000 in
theorem ggX5_tell_X5_gateOf : GoodIn wsX5_tell wsX5_gateOf := goodIn_r _ [19, 1] (by decide +kernel) (by decide +kernel)
set_option maxRecDepth 20000 in
theorem gX5_tell_X5_gateOf : GoodIn wsX5_tell (va_wsS RX5 124 yX5_gateOf wsX5_gateOf) := goodIn_app (goodIn_of _ (by decide +kernel)) ggX5_tell_X5_gateOf
theorem dX5_tell_0 : decode cX5_tell 0 = .ok (.iload_n 3, 1) := by decide +kernel
theorem dX5_tell_1 : decode cX5_tell 1 = .ok (.ifCond .ge 7, 3) := by decide +kernel
theorem dX5_tell_4 : decode cX5_tell 4 = .ok (.iconst (-1), 1) := by decide +kernel
theorem dX5_tell_5 : decode cX5_tell 5 = .ok (.goto 6, 3) := by decide +kernel
theorem dX5_tell_8 : decode cX5_tell 8 = .ok (.iload_n 3, 1) := by decide +kernel
theorem dX5_tell_9 : decode cX5_tell 9 = .ok (.iconst 2, 1) := by decide +kernel
theorem dX5_tell_10 : decode cX5_tell 10 = .ok (.idiv, 1) := by decide +kernel
theorem dX5_tell_11 : decode cX5_tell 11 = .ok (.istore 4, 2) := by decide +kernel
theorem dX5_tell_13 : decode cX5_tell 13 = .ok (.iload_n 3, 1) := by decide +kernel
theorem dX5_tell_14 : decode cX5_tell 14 = .ok (.ifCond .lt 16, 3) := by decide +kernel
theorem dX5_tell_17 : decode cX5_tell 17 = .ok (.iload_n 3, 1) := by decide +kernel
theorem dX5_tell_18 : decode cX5_tell 18 = .ok (.iconst 2, 1) := by decide +kernel
theorem dX5_tell_19 : decode cX5_tell 19 = .ok (.irem, 1) := by decide +kernel
theorem dX5_tell_20 : decode cX5_tell 20 = .ok (.iconst 1, 1) := by decide +kernel
theorem dX5_tell_21 : decode cX5_tell 21 = .ok (.if_icmp .ne 9, 3) := by decide +kernel
theorem dX5_tell_24 : decode cX5_tell 24 = .ok (.ldc2_w 118, 3) := by decide +kernel
theorem dX5_tell_27 : decode cX5_tell 27 = .ok (.goto 4, 3) := by decide +kernel
theorem dX5_tell_30 : decode cX5_tell 30 = .ok (.lconst 0, 1) := by decide +kernel
theorem dX5_tell_31 : decode cX5_tell 31 = .ok (.lstore 5, 2) := by decide +kernel
theorem dX5_tell_33 : decode cX5_tell 33 = .ok (.iconst 0, 1) := by decide +kernel
theorem dX5_tell_34 : decode cX5_tell 34 = .ok (.istore 7, 2) := by decide +kernel
theorem dX5_tell_36 : decode cX5_tell 36 = .ok (.iload 7, 2) := by decide +kernel
theorem dX5_tell_38 : decode cX5_tell 38 = .ok (.aload_n 0, 1) := by decide +kernel
theorem dX5_tell_39 : decode cX5_tell 39 = .ok (.getfield 52, 3) := by decide +kernel
theorem dX5_tell_42 : decode cX5_tell 42 = .ok (.if_icmp .ge 131, 3) := by decide +kernel
theorem dX5_tell_45 : decode cX5_tell 45 = .ok (.aload_n 0, 1) := by decide +kernel
theorem dX5_tell_46 : decode cX5_tell 46 = .ok (.getfield 7, 3) := by decide +kernel
theorem dX5_tell_49 : decode cX5_tell 49 = .ok (.iload 7, 2) := by decide +kernel
theorem dX5_tell_51 : decode cX5_tell 51 = .ok (.iaload, 1) := by decide +kernel
theorem dX5_tell_52 : decode cX5_tell 52 = .ok (.ifCond .ge 21, 3) := by decide +kernel
theorem dX5_tell_55 : decode cX5_tell 55 = .ok (.aload_n 1, 1) := by decide +kernel
theorem dX5_tell_56 : decode cX5_tell 56 = .ok (.iload 7, 2) := by decide +kernel
theorem dX5_tell_58 : decode cX5_tell 58 = .ok (.aload_n 0, 1) := by decide +kernel
theorem dX5_tell_59 : decode cX5_tell 59 = .ok (.getfield 19, 3) := by decide +kernel
theorem dX5_tell_62 : decode cX5_tell 62 = .ok (.iload 7, 2) := by decide +kernel
theorem dX5_tell_64 : decode cX5_tell 64 = .ok (.iaload, 1) := by decide +kernel
theorem dX5_tell_65 : decode cX5_tell 65 = .ok (.iload_n 2, 1) := by decide +kernel
theorem dX5_tell_66 : decode cX5_tell 66 = .ok (.invokestatic 120, 3) := by decide +kernel
theorem dX5_tell_69 : decode cX5_tell 69 = .ok (.lastore, 1) := by decide +kernel
theorem dX5_tell_70 : decode cX5_tell 70 = .ok (.goto 75, 3) := by decide +kernel
theorem dX5_tell_73 : decode cX5_tell 73 = .ok (.iload 4, 2) := by decide +kernel
theorem dX5_tell_75 : decode cX5_tell 75 = .ok (.iconst 3, 1) := by decide +kernel
theorem dX5_tell_76 : decode cX5_tell 76 = .ok (.iload 7, 2) := by decide +kernel
theorem dX5_tell_78 : decode cX5_tell 78 = .ok (.imul, 1) := by decide +kernel
theorem dX5_tell_79 : decode cX5_tell 79 = .ok (.iconst 1, 1) := by decide +kernel
theorem dX5_tell_80 : decode cX5_tell 80 = .ok (.iadd, 1) := by decide +kernel
theorem dX5_tell_81 : decode cX5_tell 81 = .ok (.if_icmp .ne 8, 3) := by decide +kernel
theorem dX5_tell_84 : decode cX5_tell 84 = .ok (.lload 5, 2) := by decide +kernel
theorem dX5_tell_86 : decode cX5_tell 86 = .ok (.goto 12, 3) := by decide +kernel
theorem dX5_tell_89 : decode cX5_tell 89 = .ok (.aload_n 1, 1) := by decide +kernel
theorem dX5_tell_90 : decode cX5_tell 90 = .ok (.aload_n 0, 1) := by decide +kernel
theorem dX5_tell_91 : decode cX5_tell 91 = .ok (.getfield 13, 3) := by decide +kernel
theorem dX5_tell_94 : decode cX5_tell 94 = .ok (.iload 7, 2) := by decide +kernel
theorem dX5_tell_96 : decode cX5_tell 96 = .ok (.iaload, 1) := by decide +kernel
theorem dX5_tell_97 : decode cX5_tell 97 = .ok (.laload, 1) := by decide +kernel
theorem dX5_tell_98 : decode cX5_tell 98 = .ok (.lstore 8, 2) := by decide +kernel
theorem dX5_tell_100 : decode cX5_tell 100 = .ok (.iload 4, 2) := by decide +kernel
theorem dX5_tell_102 : decode cX5_tell 102 = .ok (.iconst 3, 1) := by decide +kernel
theorem dX5_tell_103 : decode cX5_tell 103 = .ok (.iload 7, 2) := by decide +kernel
theorem dX5_tell_105 : decode cX5_tell 105 = .ok (.imul, 1) := by decide +kernel
theorem dX5_tell_106 : decode cX5_tell 106 = .ok (.iconst 2, 1) := by decide +kernel
theorem dX5_tell_107 : decode cX5_tell 107 = .ok (.iadd, 1) := by decide +kernel
theorem dX5_tell_108 : decode cX5_tell 108 = .ok (.if_icmp .ne 8, 3) := by decide +kernel
theorem dX5_tell_111 : decode cX5_tell 111 = .ok (.lload 5, 2) := by decide +kernel
theorem dX5_tell_113 : decode cX5_tell 113 = .ok (.goto 12, 3) := by decide +kernel
theorem dX5_tell_116 : decode cX5_tell 116 = .ok (.aload_n 1, 1) := by decide +kernel
theorem dX5_tell_117 : decode cX5_tell 117 = .ok (.aload_n 0, 1) := by decide +kernel
theorem dX5_tell_118 : decode cX5_tell 118 = .ok (.getfield 16, 3) := by decide +kernel
theorem dX5_tell_121 : decode cX5_tell 121 = .ok (.iload 7, 2) := by decide +kernel
theorem dX5_tell_123 : decode cX5_tell 123 = .ok (.iaload, 1) := by decide +kernel
theorem dX5_tell_124 : decode cX5_tell 124 = .ok (.laload, 1) := by decide +kernel
theorem dX5_tell_125 : decode cX5_tell 125 = .ok (.lstore 10, 2) := by decide +kernel
theorem dX5_tell_127 : decode cX5_tell 127 = .ok (.aload_n 1, 1) := by decide +kernel
theorem dX5_tell_128 : decode cX5_tell 128 = .ok (.iload 7, 2) := by decide +kernel
theorem dX5_tell_130 : decode cX5_tell 130 = .ok (.aload_n 0, 1) := by decide +kernel
theorem dX5_tell_131 : decode cX5_tell 131 = .ok (.getfield 7, 3) := by decide +kernel
theorem dX5_tell_134 : decode cX5_tell 134 = .ok (.iload 7, 2) := by decide +kernel
theorem dX5_tell_136 : decode cX5_tell 136 = .ok (.iaload, 1) := by decide +kernel
theorem dX5_tell_137 : decode cX5_tell 137 = .ok (.lload 8, 2) := by decide +kernel
theorem dX5_tell_139 : decode cX5_tell 139 = .ok (.lload 10, 2) := by decide +kernel
theorem dX5_tell_141 : decode cX5_tell 141 = .ok (.invokestatic 124, 3) := by decide +kernel
theorem dX5_tell_144 : decode cX5_tell 144 = .ok (.lastore, 1) := by decide +kernel
theorem dX5_tell_145 : decode cX5_tell 145 = .ok (.aload_n 1, 1) := by decide +kernel
theorem dX5_tell_146 : decode cX5_tell 146 = .ok (.iload 7, 2) := by decide +kernel
theorem dX5_tell_148 : decode cX5_tell 148 = .ok (.iload 4, 2) := by decide +kernel
theorem dX5_tell_150 : decode cX5_tell 150 = .ok (.iconst 3, 1) := by decide +kernel
theorem dX5_tell_151 : decode cX5_tell 151 = .ok (.iload 7, 2) := by decide +kernel
theorem dX5_tell_153 : decode cX5_tell 153 = .ok (.imul, 1) := by decide +kernel
theorem dX5_tell_154 : decode cX5_tell 154 = .ok (.if_icmp .ne 8, 3) := by decide +kernel
theorem dX5_tell_157 : decode cX5_tell 157 = .ok (.lload 5, 2) := by decide +kernel
theorem dX5_tell_159 : decode cX5_tell 159 = .ok (.goto 7, 3) := by decide +kernel
theorem dX5_tell_162 : decode cX5_tell 162 = .ok (.aload_n 1, 1) := by decide +kernel
theorem dX5_tell_163 : decode cX5_tell 163 = .ok (.iload 7, 2) := by decide +kernel
theorem dX5_tell_165 : decode cX5_tell 165 = .ok (.laload, 1) := by decide +kernel
theorem dX5_tell_166 : decode cX5_tell 166 = .ok (.lastore, 1) := by decide +kernel
theorem dX5_tell_167 : decode cX5_tell 167 = .ok (.iinc 7 1, 3) := by decide +kernel
theorem dX5_tell_170 : decode cX5_tell 170 = .ok (.goto (-134), 3) := by decide +kernel
theorem dX5_tell_173 : decode cX5_tell 173 = .ok (.return_, 1) := by decide +kernel
theorem dX5_all_0 : decode cX5_all 0 = .ok (.iconst 1, 1) := by decide +kernel
theorem dX5_all_1 : decode cX5_all 1 = .ok (.aload_n 0, 1) := by decide +kernel
theorem dX5_all_2 : decode cX5_all 2 = .ok (.getfield 55, 3) := by decide +kernel
theorem dX5_all_5 : decode cX5_all 5 = .ok (.ishl, 1) := by decide +kernel
theorem dX5_all_6 : decode cX5_all 6 = .ok (.ireturn, 1) := by decide +kernel
set_option maxRecDepth 20000 in
theorem ggX5_blocks_X5_all : GoodIn wsX5_blocks wsX5_all := goodIn_r _ [6, 1, 7, 8, 9, 10, 11, 12, 13, 14, 15, 16, 17, 18, 19, 20, 21, 22, 23, 24] (by decide +kernel) (by decide +kernel)
set_option maxRecDepth 20000 in
theorem gX5_blocks_X5_all : GoodIn wsX5_blocks (wsV RX5 128 RX5 yX5_all wsX5_all) := goodIn_app (goodIn_of _ (by decide +kernel)) ggX5_blocks_X5_all
theorem dX5_blocks_0 : decode cX5_blocks 0 = .ok (.aload_n 0, 1) := by decide +kernel
theorem dX5_blocks_1 : decode cX5_blocks 1 = .ok (.getfield 55, 3) := by decide +kernel
theorem dX5_blocks_4 : decode cX5_blocks 4 = .ok (.bipush 6, 2) := by decide +kernel
theorem dX5_blocks_6 : decode cX5_blocks 6 = .ok (.if_icmp .le 13, 3) := by decide +kernel
theorem dX5_blocks_9 : decode cX5_blocks 9 = .ok (.aload_n 0, 1) := by decide +kernel
theorem dX5_blocks_10 : decode cX5_blocks 10 = .ok (.invokevirtual 128, 3) := by decide +kernel
theorem dX5_blocks_13 : decode cX5_blocks 13 = .ok (.bipush 64, 2) := by decide +kernel
theorem dX5_blocks_15 : decode cX5_blocks 15 = .ok (.idiv, 1) := by decide +kernel
theorem dX5_blocks_16 : decode cX5_blocks 16 = .ok (.goto 4, 3) := by decide +kernel
theorem dX5_blocks_19 : decode cX5_blocks 19 = .ok (.iconst 1, 1) := by decide +kernel
theorem dX5_blocks_20 : decode cX5_blocks 20 = .ok (.ireturn, 1) := by decide +kernel
set_option maxRecDepth 20000 in
theorem ggX5_there_X5_all : GoodIn wsX5_there wsX5_all := goodIn_r _ [7, 1, 8, 9, 10, 11, 12, 13, 14, 15, 16, 17, 18, 19, 20, 21, 22, 23, 24, 25] (by decide +kernel) (by decide +kernel)
set_option maxRecDepth 20000 in
theorem gX5_there_X5_all : GoodIn wsX5_there (wsV RX5 128 RX5 yX5_all wsX5_all) := goodIn_app (goodIn_of _ (by decide +kernel)) ggX5_there_X5_all
theorem dX5_there_0 : decode cX5_there 0 = .ok (.aload_n 0, 1) := by decide +kernel
theorem dX5_there_1 : decode cX5_there 1 = .ok (.getfield 55, 3) := by decide +kernel
theorem dX5_there_4 : decode cX5_there 4 = .ok (.iconst 5, 1) := by decide +kernel
theorem dX5_there_5 : decode cX5_there 5 = .ok (.if_icmp .le 9, 3) := by decide +kernel
theorem dX5_there_8 : decode cX5_there 8 = .ok (.ldc2_w 118, 3) := by decide +kernel
theorem dX5_there_11 : decode cX5_there 11 = .ok (.goto 11, 3) := by decide +kernel
theorem dX5_there_14 : decode cX5_there 14 = .ok (.lconst 1, 1) := by decide +kernel
theorem dX5_there_15 : decode cX5_there 15 = .ok (.aload_n 0, 1) := by decide +kernel
theorem dX5_there_16 : decode cX5_there 16 = .ok (.invokevirtual 128, 3) := by decide +kernel
theorem dX5_there_19 : decode cX5_there 19 = .ok (.lshl, 1) := by decide +kernel
theorem dX5_there_20 : decode cX5_there 20 = .ok (.lconst 1, 1) := by decide +kernel
theorem dX5_there_21 : decode cX5_there 21 = .ok (.lsub, 1) := by decide +kernel
theorem dX5_there_22 : decode cX5_there 22 = .ok (.lreturn, 1) := by decide +kernel
set_option maxRecDepth 20000 in
theorem ggX5_showing_X5_tell : GoodIn wsX5_showing wsX5_tell := goodIn_r _ [9, 10, 11, 12, 13, 14, 15, 16, 17, 8, 18, 19, 20, 21, 22, 23, 24, 25, 26, 27, 37, 38, 39, 40, 41, 42, 43, 44, 45, 46, 47, 48, 49, 50, 51, 52, 53, 54] (by decide +kernel) (by decide +kernel)
set_option maxRecDepth 20000 in
theorem gX5_showing_X5_tell : GoodIn wsX5_showing (wsV RX5 132 RX5 yX5_tell wsX5_tell) := goodIn_app (goodIn_of _ (by decide +kernel)) ggX5_showing_X5_tell
set_option maxRecDepth 20000 in
theorem ggX5_showing_X5_there : GoodIn wsX5_showing wsX5_there := goodIn_r _ [31, 32, 10, 33, 34, 35, 8, 36, 37, 38, 39, 40, 41, 42, 43, 44, 45, 46, 47, 48, 49, 50, 51, 52, 53, 54] (by decide +kernel) (by decide +kernel)
set_option maxRecDepth 20000 in
theorem gX5_showing_X5_there : GoodIn wsX5_showing (wsV RX5 136 RX5 yX5_there wsX5_there) := goodIn_app (goodIn_of _ (by decide +kernel)) ggX5_showing_X5_there
theorem dX5_showing_0 : decode cX5_showing 0 = .ok (.aload_n 0, 1) := by decide +kernel
theorem dX5_showing_1 : decode cX5_showing 1 = .ok (.aload_n 0, 1) := by decide +kernel
theorem dX5_showing_2 : decode cX5_showing 2 = .ok (.getfield 41, 3) := by decide +kernel
theorem dX5_showing_5 : decode cX5_showing 5 = .ok (.iload_n 2, 1) := by decide +kernel
theorem dX5_showing_6 : decode cX5_showing 6 = .ok (.iconst (-1), 1) := by decide +kernel
theorem dX5_showing_7 : decode cX5_showing 7 = .ok (.invokevirtual 132, 3) := by decide +kernel
theorem dX5_showing_10 : decode cX5_showing 10 = .ok (.aload_n 0, 1) := by decide +kernel
theorem dX5_showing_11 : decode cX5_showing 11 = .ok (.aload_n 0, 1) := by decide +kernel
theorem dX5_showing_12 : decode cX5_showing 12 = .ok (.getfield 45, 3) := by decide +kernel
theorem dX5_showing_15 : decode cX5_showing 15 = .ok (.iload_n 2, 1) := by decide +kernel
theorem dX5_showing_16 : decode cX5_showing 16 = .ok (.iload_n 1, 1) := by decide +kernel
theorem dX5_showing_17 : decode cX5_showing 17 = .ok (.invokevirtual 132, 3) := by decide +kernel
theorem dX5_showing_20 : decode cX5_showing 20 = .ok (.lconst 0, 1) := by decide +kernel
theorem dX5_showing_21 : decode cX5_showing 21 = .ok (.lstore_n 3, 1) := by decide +kernel
theorem dX5_showing_22 : decode cX5_showing 22 = .ok (.iconst 0, 1) := by decide +kernel
theorem dX5_showing_23 : decode cX5_showing 23 = .ok (.istore 5, 2) := by decide +kernel
theorem dX5_showing_25 : decode cX5_showing 25 = .ok (.iload 5, 2) := by decide +kernel
theorem dX5_showing_27 : decode cX5_showing 27 = .ok (.aload_n 0, 1) := by decide +kernel
theorem dX5_showing_28 : decode cX5_showing 28 = .ok (.getfield 68, 3) := by decide +kernel
theorem dX5_showing_31 : decode cX5_showing 31 = .ok (.if_icmp .ge 37, 3) := by decide +kernel
theorem dX5_showing_34 : decode cX5_showing 34 = .ok (.lload_n 3, 1) := by decide +kernel
theorem dX5_showing_35 : decode cX5_showing 35 = .ok (.aload_n 0, 1) := by decide +kernel
theorem dX5_showing_36 : decode cX5_showing 36 = .ok (.getfield 41, 3) := by decide +kernel
theorem dX5_showing_39 : decode cX5_showing 39 = .ok (.aload_n 0, 1) := by decide +kernel
theorem dX5_showing_40 : decode cX5_showing 40 = .ok (.getfield 22, 3) := by decide +kernel
theorem dX5_showing_43 : decode cX5_showing 43 = .ok (.iload 5, 2) := by decide +kernel
theorem dX5_showing_45 : decode cX5_showing 45 = .ok (.iaload, 1) := by decide +kernel
theorem dX5_showing_46 : decode cX5_showing 46 = .ok (.laload, 1) := by decide +kernel
theorem dX5_showing_47 : decode cX5_showing 47 = .ok (.aload_n 0, 1) := by decide +kernel
theorem dX5_showing_48 : decode cX5_showing 48 = .ok (.getfield 45, 3) := by decide +kernel
theorem dX5_showing_51 : decode cX5_showing 51 = .ok (.aload_n 0, 1) := by decide +kernel
theorem dX5_showing_52 : decode cX5_showing 52 = .ok (.getfield 22, 3) := by decide +kernel
theorem dX5_showing_55 : decode cX5_showing 55 = .ok (.iload 5, 2) := by decide +kernel
theorem dX5_showing_57 : decode cX5_showing 57 = .ok (.iaload, 1) := by decide +kernel
theorem dX5_showing_58 : decode cX5_showing 58 = .ok (.laload, 1) := by decide +kernel
theorem dX5_showing_59 : decode cX5_showing 59 = .ok (.lxor, 1) := by decide +kernel
theorem dX5_showing_60 : decode cX5_showing 60 = .ok (.lor, 1) := by decide +kernel
theorem dX5_showing_61 : decode cX5_showing 61 = .ok (.lstore_n 3, 1) := by decide +kernel
theorem dX5_showing_62 : decode cX5_showing 62 = .ok (.iinc 5 1, 3) := by decide +kernel
theorem dX5_showing_65 : decode cX5_showing 65 = .ok (.goto (-40), 3) := by decide +kernel
theorem dX5_showing_68 : decode cX5_showing 68 = .ok (.lload_n 3, 1) := by decide +kernel
theorem dX5_showing_69 : decode cX5_showing 69 = .ok (.aload_n 0, 1) := by decide +kernel
theorem dX5_showing_70 : decode cX5_showing 70 = .ok (.invokevirtual 136, 3) := by decide +kernel
theorem dX5_showing_73 : decode cX5_showing 73 = .ok (.land, 1) := by decide +kernel
theorem dX5_showing_74 : decode cX5_showing 74 = .ok (.lreturn, 1) := by decide +kernel
theorem dX5_firstOf_0 : decode cX5_firstOf 0 = .ok (.iconst 0, 1) := by decide +kernel
theorem dX5_firstOf_1 : decode cX5_firstOf 1 = .ok (.istore_n 2, 1) := by decide +kernel
theorem dX5_firstOf_2 : decode cX5_firstOf 2 = .ok (.lload_n 0, 1) := by decide +kernel
theorem dX5_firstOf_3 : decode cX5_firstOf 3 = .ok (.iload_n 2, 1) := by decide +kernel
theorem dX5_firstOf_4 : decode cX5_firstOf 4 = .ok (.lshr, 1) := by decide +kernel
theorem dX5_firstOf_5 : decode cX5_firstOf 5 = .ok (.lconst 1, 1) := by decide +kernel
theorem dX5_firstOf_6 : decode cX5_firstOf 6 = .ok (.land, 1) := by decide +kernel
theorem dX5_firstOf_7 : decode cX5_firstOf 7 = .ok (.lconst 0, 1) := by decide +kernel
theorem dX5_firstOf_8 : decode cX5_firstOf 8 = .ok (.lcmp, 1) := by decide +kernel
theorem dX5_firstOf_9 : decode cX5_firstOf 9 = .ok (.ifCond .ne 9, 3) := by decide +kernel
theorem dX5_firstOf_12 : decode cX5_firstOf 12 = .ok (.iinc 2 1, 3) := by decide +kernel
theorem dX5_firstOf_15 : decode cX5_firstOf 15 = .ok (.goto (-13), 3) := by decide +kernel
theorem dX5_firstOf_18 : decode cX5_firstOf 18 = .ok (.iload_n 2, 1) := by decide +kernel
theorem dX5_firstOf_19 : decode cX5_firstOf 19 = .ok (.ireturn, 1) := by decide +kernel
set_option maxRecDepth 20000 in
theorem ggX5_testOf_X5_blocks : GoodIn wsX5_testOf wsX5_blocks := goodIn_r _ [5, 6, 7, 8, 9, 4, 10, 48, 49, 50, 51, 52, 53, 54, 55, 56, 57, 58, 59, 60, 61, 62, 63, 64, 65] (by decide +kernel) (by decide +kernel)
set_option maxRecDepth 20000 in
theorem gX5_testOf_X5_blocks : GoodIn wsX5_testOf (wsV RX5 140 RX5 yX5_blocks wsX5_blocks) := goodIn_app (goodIn_of _ (by decide +kernel)) ggX5_testOf_X5_blocks
set_option maxRecDepth 20000 in
theorem ggX5_testOf_X5_showing : GoodIn wsX5_testOf wsX5_showing := goodIn_r _ [14, 15, 16, 17, 18, 19, 20, 21, 4, 22, 23, 24, 25, 26, 27, 28, 29, 30, 31, 32, 33, 34, 35, 36, 37, 38, 39, 40, 41, 42, 43, 44, 6, 7, 8, 9, 10, 48, 49, 50, 51, 52, 53, 54, 55, 56, 57, 58, 59, 60, 61, 62, 63, 64, 65] (by decide +kernel) (by decide +kernel)
set_option maxRecDepth 20000 in
theorem gX5_testOf_X5_showing : GoodIn wsX5_testOf (wsV RX5 143 RX5 yX5_showing wsX5_showing) := goodIn_app (goodIn_of _ (by decide +kernel)) ggX5_testOf_X5_showing
set_option maxRecDepth 20000 in
theorem ggX5_testOf_X5_firstOf : GoodIn wsX5_testOf wsX5_firstOf := goodIn_r _ [47] (by decide +kernel) (by decide +kernel)
set_option maxRecDepth 20000 in
theorem gX5_testOf_X5_firstOf : GoodIn wsX5_testOf (va_wsS RX5 146 yX5_firstOf wsX5_firstOf) := goodIn_app (goodIn_of _ (by decide +kernel)) ggX5_testOf_X5_firstOf
theorem dX5_testOf_0 : decode cX5_testOf 0 = .ok (.iconst 0, 1) := by decide +kernel
theorem dX5_testOf_1 : decode cX5_testOf 1 = .ok (.istore_n 2, 1) := by decide +kernel
theorem dX5_testOf_2 : decode cX5_testOf 2 = .ok (.iload_n 2, 1) := by decide +kernel
theorem dX5_testOf_3 : decode cX5_testOf 3 = .ok (.aload_n 0, 1) := by decide +kernel
theorem dX5_testOf_4 : decode cX5_testOf 4 = .ok (.invokevirtual 140, 3) := by decide +kernel
theorem dX5_testOf_7 : decode cX5_testOf 7 = .ok (.if_icmp .ge 32, 3) := by decide +kernel
theorem dX5_testOf_10 : decode cX5_testOf 10 = .ok (.aload_n 0, 1) := by decide +kernel
theorem dX5_testOf_11 : decode cX5_testOf 11 = .ok (.iload_n 1, 1) := by decide +kernel
theorem dX5_testOf_12 : decode cX5_testOf 12 = .ok (.iload_n 2, 1) := by decide +kernel
theorem dX5_testOf_13 : decode cX5_testOf 13 = .ok (.invokevirtual 143, 3) := by decide +kernel
theorem dX5_testOf_16 : decode cX5_testOf 16 = .ok (.lstore_n 3, 1) := by decide +kernel
theorem dX5_testOf_17 : decode cX5_testOf 17 = .ok (.lload_n 3, 1) := by decide +kernel
theorem dX5_testOf_18 : decode cX5_testOf 18 = .ok (.lconst 0, 1) := by decide +kernel
theorem dX5_testOf_19 : decode cX5_testOf 19 = .ok (.lcmp, 1) := by decide +kernel
theorem dX5_testOf_20 : decode cX5_testOf 20 = .ok (.ifCond .eq 13, 3) := by decide +kernel
theorem dX5_testOf_23 : decode cX5_testOf 23 = .ok (.bipush 64, 2) := by decide +kernel
theorem dX5_testOf_25 : decode cX5_testOf 25 = .ok (.iload_n 2, 1) := by decide +kernel
theorem dX5_testOf_26 : decode cX5_testOf 26 = .ok (.imul, 1) := by decide +kernel
theorem dX5_testOf_27 : decode cX5_testOf 27 = .ok (.lload_n 3, 1) := by decide +kernel
theorem dX5_testOf_28 : decode cX5_testOf 28 = .ok (.invokestatic 146, 3) := by decide +kernel
theorem dX5_testOf_31 : decode cX5_testOf 31 = .ok (.iadd, 1) := by decide +kernel
theorem dX5_testOf_32 : decode cX5_testOf 32 = .ok (.ireturn, 1) := by decide +kernel
theorem dX5_testOf_33 : decode cX5_testOf 33 = .ok (.iinc 2 1, 3) := by decide +kernel
theorem dX5_testOf_36 : decode cX5_testOf 36 = .ok (.goto (-34), 3) := by decide +kernel
theorem dX5_testOf_39 : decode cX5_testOf 39 = .ok (.iconst (-1), 1) := by decide +kernel
theorem dX5_testOf_40 : decode cX5_testOf 40 = .ok (.ireturn, 1) := by decide +kernel
set_option maxRecDepth 20000 in
theorem ggX5_isShown_X5_all : GoodIn wsX5_isShown wsX5_all := goodIn_r _ [5, 6, 41, 42, 43, 44, 45, 46, 47, 48, 49, 50, 51, 52, 53, 54, 55, 56, 57, 58] (by decide +kernel) (by decide +kernel)
set_option maxRecDepth 20000 in
theorem gX5_isShown_X5_all : GoodIn wsX5_isShown (wsV RX5 128 RX5 yX5_all wsX5_all) := goodIn_app (goodIn_of _ (by decide +kernel)) ggX5_isShown_X5_all
set_option maxRecDepth 20000 in
theorem ggX5_isShown_X5_showing : GoodIn wsX5_isShown wsX5_showing := goodIn_r _ [10, 11, 12, 13, 14, 15, 16, 17, 4, 18, 19, 20, 21, 22, 23, 24, 25, 26, 27, 28, 29, 30, 31, 32, 33, 34, 35, 36, 37, 38, 39, 40, 6, 1, 2, 3, 5, 41, 42, 43, 44, 45, 46, 47, 48, 49, 50, 51, 52, 53, 54, 55, 56, 57, 58] (by decide +kernel) (by decide +kernel)
set_option maxRecDepth 20000 in
theorem gX5_isShown_X5_showing : GoodIn wsX5_isShown (wsV RX5 143 RX5 yX5_showing wsX5_showing) := goodIn_app (goodIn_of _ (by decide +kernel)) ggX5_isShown_X5_showing
theorem dX5_isShown_0 : decode cX5_isShown 0 = .ok (.iload_n 2, 1) := by decide +kernel
theorem dX5_isShown_1 : decode cX5_isShown 1 = .ok (.aload_n 0, 1) := by decide +kernel
theorem dX5_isShown_2 : decode cX5_isShown 2 = .ok (.invokevirtual 128, 3) := by decide +kernel
theorem dX5_isShown_5 : decode cX5_isShown 5 = .ok (.iconst 1, 1) := by decide +kernel
theorem dX5_isShown_6 : decode cX5_isShown 6 = .ok (.isub, 1) := by decide +kernel
theorem dX5_isShown_7 : decode cX5_isShown 7 = .ok (.iand, 1) := by decide +kernel
theorem dX5_isShown_8 : decode cX5_isShown 8 = .ok (.istore_n 3, 1) := by decide +kernel
theorem dX5_isShown_9 : decode cX5_isShown 9 = .ok (.aload_n 0, 1) := by decide +kernel
theorem dX5_isShown_10 : decode cX5_isShown 10 = .ok (.iload_n 1, 1) := by decide +kernel
theorem dX5_isShown_11 : decode cX5_isShown 11 = .ok (.iload_n 3, 1) := by decide +kernel
theorem dX5_isShown_12 : decode cX5_isShown 12 = .ok (.bipush 64, 2) := by decide +kernel
theorem dX5_isShown_14 : decode cX5_isShown 14 = .ok (.idiv, 1) := by decide +kernel
theorem dX5_isShown_15 : decode cX5_isShown 15 = .ok (.invokevirtual 143, 3) := by decide +kernel
theorem dX5_isShown_18 : decode cX5_isShown 18 = .ok (.iload_n 3, 1) := by decide +kernel
theorem dX5_isShown_19 : decode cX5_isShown 19 = .ok (.bipush 64, 2) := by decide +kernel
theorem dX5_isShown_21 : decode cX5_isShown 21 = .ok (.irem, 1) := by decide +kernel
theorem dX5_isShown_22 : decode cX5_isShown 22 = .ok (.lshr, 1) := by decide +kernel
theorem dX5_isShown_23 : decode cX5_isShown 23 = .ok (.lconst 1, 1) := by decide +kernel
theorem dX5_isShown_24 : decode cX5_isShown 24 = .ok (.land, 1) := by decide +kernel
theorem dX5_isShown_25 : decode cX5_isShown 25 = .ok (.lconst 1, 1) := by decide +kernel
theorem dX5_isShown_26 : decode cX5_isShown 26 = .ok (.lcmp, 1) := by decide +kernel
theorem dX5_isShown_27 : decode cX5_isShown 27 = .ok (.ifCond .ne 7, 3) := by decide +kernel
theorem dX5_isShown_30 : decode cX5_isShown 30 = .ok (.iconst 1, 1) := by decide +kernel
theorem dX5_isShown_31 : decode cX5_isShown 31 = .ok (.goto 4, 3) := by decide +kernel
theorem dX5_isShown_34 : decode cX5_isShown 34 = .ok (.iconst 0, 1) := by decide +kernel
theorem dX5_isShown_35 : decode cX5_isShown 35 = .ok (.ireturn, 1) := by decide +kernel
set_option maxRecDepth 20000 in
theorem ggX5_value_X5_isNet : GoodIn wsX5_value wsX5_isNet := goodIn_r _ [6, 7, 39, 40, 41, 42, 43, 44, 45, 46, 47, 48, 49, 50, 51, 52, 53, 54, 55, 56] (by decide +kernel) (by decide +kernel)
set_option maxRecDepth 20000 in
theorem gX5_value_X5_isNet : GoodIn wsX5_value (wsV RX5 65 RX5 yX5_isNet wsX5_isNet) := goodIn_app (goodIn_of _ (by decide +kernel)) ggX5_value_X5_isNet
set_option maxRecDepth 20000 in
theorem ggX5_value_X5_refuses : GoodIn wsX5_value wsX5_refuses := goodIn_r _ [11, 12, 39, 40, 41, 42, 43, 44, 45, 46, 47, 48, 49, 50, 51, 52, 53, 54, 55, 56] (by decide +kernel) (by decide +kernel)
set_option maxRecDepth 20000 in
theorem gX5_value_X5_refuses : GoodIn wsX5_value (wsV RX5 58 RX5 yX5_refuses wsX5_refuses) := goodIn_app (goodIn_of _ (by decide +kernel)) ggX5_value_X5_refuses
set_option maxRecDepth 20000 in
theorem ggX5_value_X5_all : GoodIn wsX5_value wsX5_all := goodIn_r _ [16, 17, 39, 40, 41, 42, 43, 44, 45, 46, 47, 48, 49, 50, 51, 52, 53, 54, 55, 56] (by decide +kernel) (by decide +kernel)
set_option maxRecDepth 20000 in
theorem gX5_value_X5_all : GoodIn wsX5_value (wsV RX5 128 RX5 yX5_all wsX5_all) := goodIn_app (goodIn_of _ (by decide +kernel)) ggX5_value_X5_all
set_option maxRecDepth 20000 in
theorem ggX5_value_X5_tell : GoodIn wsX5_value wsX5_tell := goodIn_r _ [21, 22, 7, 23, 24, 25, 26, 27, 28, 5, 29, 30, 31, 32, 33, 34, 35, 36, 37, 38, 39, 40, 41, 42, 43, 44, 45, 46, 47, 48, 49, 50, 51, 52, 53, 54, 55, 56] (by decide +kernel) (by decide +kernel)
set_option maxRecDepth 20000 in
theorem gX5_value_X5_tell : GoodIn wsX5_value (wsV RX5 132 RX5 yX5_tell wsX5_tell) := goodIn_app (goodIn_of _ (by decide +kernel)) ggX5_value_X5_tell
theorem dX5_value_0 : decode cX5_value 0 = .ok (.aload_n 0, 1) := by decide +kernel
theorem dX5_value_1 : decode cX5_value 1 = .ok (.aload_n 0, 1) := by decide +kernel
theorem dX5_value_2 : decode cX5_value 2 = .ok (.iload_n 1, 1) := by decide +kernel
theorem dX5_value_3 : decode cX5_value 3 = .ok (.invokevirtual 65, 3) := by decide +kernel
theorem dX5_value_6 : decode cX5_value 6 = .ok (.ifCond .eq 7, 3) := by decide +kernel
theorem dX5_value_9 : decode cX5_value 9 = .ok (.iconst 0, 1) := by decide +kernel
theorem dX5_value_10 : decode cX5_value 10 = .ok (.goto 4, 3) := by decide +kernel
theorem dX5_value_13 : decode cX5_value 13 = .ok (.iconst 1, 1) := by decide +kernel
theorem dX5_value_14 : decode cX5_value 14 = .ok (.invokevirtual 58, 3) := by decide +kernel
theorem dX5_value_17 : decode cX5_value 17 = .ok (.ifCond .eq 5, 3) := by decide +kernel
theorem dX5_value_20 : decode cX5_value 20 = .ok (.iconst 0, 1) := by decide +kernel
theorem dX5_value_21 : decode cX5_value 21 = .ok (.ireturn, 1) := by decide +kernel
theorem dX5_value_22 : decode cX5_value 22 = .ok (.iload_n 2, 1) := by decide +kernel
theorem dX5_value_23 : decode cX5_value 23 = .ok (.aload_n 0, 1) := by decide +kernel
theorem dX5_value_24 : decode cX5_value 24 = .ok (.invokevirtual 128, 3) := by decide +kernel
theorem dX5_value_27 : decode cX5_value 27 = .ok (.iconst 1, 1) := by decide +kernel
theorem dX5_value_28 : decode cX5_value 28 = .ok (.isub, 1) := by decide +kernel
theorem dX5_value_29 : decode cX5_value 29 = .ok (.iand, 1) := by decide +kernel
theorem dX5_value_30 : decode cX5_value 30 = .ok (.istore_n 3, 1) := by decide +kernel
theorem dX5_value_31 : decode cX5_value 31 = .ok (.aload_n 0, 1) := by decide +kernel
theorem dX5_value_32 : decode cX5_value 32 = .ok (.aload_n 0, 1) := by decide +kernel
theorem dX5_value_33 : decode cX5_value 33 = .ok (.getfield 41, 3) := by decide +kernel
theorem dX5_value_36 : decode cX5_value 36 = .ok (.iload_n 3, 1) := by decide +kernel
theorem dX5_value_37 : decode cX5_value 37 = .ok (.bipush 64, 2) := by decide +kernel
theorem dX5_value_39 : decode cX5_value 39 = .ok (.idiv, 1) := by decide +kernel
theorem dX5_value_40 : decode cX5_value 40 = .ok (.iconst (-1), 1) := by decide +kernel
theorem dX5_value_41 : decode cX5_value 41 = .ok (.invokevirtual 132, 3) := by decide +kernel
theorem dX5_value_44 : decode cX5_value 44 = .ok (.aload_n 0, 1) := by decide +kernel
theorem dX5_value_45 : decode cX5_value 45 = .ok (.getfield 41, 3) := by decide +kernel
theorem dX5_value_48 : decode cX5_value 48 = .ok (.iload_n 1, 1) := by decide +kernel
theorem dX5_value_49 : decode cX5_value 49 = .ok (.laload, 1) := by decide +kernel
theorem dX5_value_50 : decode cX5_value 50 = .ok (.iload_n 3, 1) := by decide +kernel
theorem dX5_value_51 : decode cX5_value 51 = .ok (.bipush 64, 2) := by decide +kernel
theorem dX5_value_53 : decode cX5_value 53 = .ok (.irem, 1) := by decide +kernel
theorem dX5_value_54 : decode cX5_value 54 = .ok (.lshr, 1) := by decide +kernel
theorem dX5_value_55 : decode cX5_value 55 = .ok (.lconst 1, 1) := by decide +kernel
theorem dX5_value_56 : decode cX5_value 56 = .ok (.land, 1) := by decide +kernel
theorem dX5_value_57 : decode cX5_value 57 = .ok (.l2i, 1) := by decide +kernel
theorem dX5_value_58 : decode cX5_value 58 = .ok (.ireturn, 1) := by decide +kernel
set_option maxRecDepth 20000 in
theorem ggX5_test_X5_isClass : GoodIn wsX5_test wsX5_isClass := goodIn_r _ [6, 7, 63, 64, 65, 66, 67, 68, 69, 70, 71, 72, 73, 74, 75, 76, 77, 78, 79, 80] (by decide +kernel) (by decide +kernel)
set_option maxRecDepth 20000 in
theorem gX5_test_X5_isClass : GoodIn wsX5_test (wsV RX5 103 RX5 yX5_isClass wsX5_isClass) := goodIn_app (goodIn_of _ (by decide +kernel)) ggX5_test_X5_isClass
set_option maxRecDepth 20000 in
theorem ggX5_test_X5_refuses : GoodIn wsX5_test wsX5_refuses := goodIn_r _ [11, 12, 63, 64, 65, 66, 67, 68, 69, 70, 71, 72, 73, 74, 75, 76, 77, 78, 79, 80] (by decide +kernel) (by decide +kernel)
set_option maxRecDepth 20000 in
theorem gX5_test_X5_refuses : GoodIn wsX5_test (wsV RX5 58 RX5 yX5_refuses wsX5_refuses) := goodIn_app (goodIn_of _ (by decide +kernel)) ggX5_test_X5_refuses
set_option maxRecDepth 20000 in
theorem ggX5_test_X5_testOf : GoodIn wsX5_test wsX5_testOf := goodIn_r _ [16, 17, 18, 19, 5, 20, 21, 22, 23, 24, 25, 26, 27, 28, 29, 30, 31, 32, 33, 34, 35, 36, 37, 38, 39, 40, 41, 42, 43, 44, 45, 46, 47, 48, 49, 50, 51, 52, 53, 54, 55, 56, 57, 58, 59, 60, 61, 62, 63, 64, 65, 66, 67, 68, 69, 70, 71, 72, 73, 74, 75, 76, 77, 78, 79, 80] (by decide +kernel) (by decide +kernel)
set_option maxRecDepth 20000 in
theorem gX5_test_X5_testOf : GoodIn wsX5_test (wsV RX5 150 RX5 yX5_testOf wsX5_testOf) := goodIn_app (goodIn_of _ (by decide +kernel)) ggX5_test_X5_testOf
theorem dX5_test_0 : decode cX5_test 0 = .ok (.aload_n 0, 1) := by decide +kernel
theorem dX5_test_1 : decode cX5_test 1 = .ok (.aload_n 0, 1) := by decide +kernel
theorem dX5_test_2 : decode cX5_test 2 = .ok (.iload_n 1, 1) := by decide +kernel
theorem dX5_test_3 : decode cX5_test 3 = .ok (.invokevirtual 103, 3) := by decide +kernel
theorem dX5_test_6 : decode cX5_test 6 = .ok (.ifCond .eq 7, 3) := by decide +kernel
theorem dX5_test_9 : decode cX5_test 9 = .ok (.iconst 0, 1) := by decide +kernel
theorem dX5_test_10 : decode cX5_test 10 = .ok (.goto 4, 3) := by decide +kernel
theorem dX5_test_13 : decode cX5_test 13 = .ok (.iconst 1, 1) := by decide +kernel
theorem dX5_test_14 : decode cX5_test 14 = .ok (.invokevirtual 58, 3) := by decide +kernel
theorem dX5_test_17 : decode cX5_test 17 = .ok (.ifCond .eq 7, 3) := by decide +kernel
theorem dX5_test_20 : decode cX5_test 20 = .ok (.iconst 0, 1) := by decide +kernel
theorem dX5_test_21 : decode cX5_test 21 = .ok (.goto 13, 3) := by decide +kernel
theorem dX5_test_24 : decode cX5_test 24 = .ok (.aload_n 0, 1) := by decide +kernel
theorem dX5_test_25 : decode cX5_test 25 = .ok (.aload_n 0, 1) := by decide +kernel
theorem dX5_test_26 : decode cX5_test 26 = .ok (.getfield 28, 3) := by decide +kernel
theorem dX5_test_29 : decode cX5_test 29 = .ok (.iload_n 1, 1) := by decide +kernel
theorem dX5_test_30 : decode cX5_test 30 = .ok (.iaload, 1) := by decide +kernel
theorem dX5_test_31 : decode cX5_test 31 = .ok (.invokevirtual 150, 3) := by decide +kernel
theorem dX5_test_34 : decode cX5_test 34 = .ok (.ireturn, 1) := by decide +kernel
set_option maxRecDepth 20000 in
theorem ggX5_shows_X5_isClass : GoodIn wsX5_shows wsX5_isClass := goodIn_r _ [6, 7, 56, 57, 58, 59, 60, 61, 62, 63, 64, 65, 66, 67, 68, 69, 70, 71, 72, 73] (by decide +kernel) (by decide +kernel)
set_option maxRecDepth 20000 in
theorem gX5_shows_X5_isClass : GoodIn wsX5_shows (wsV RX5 103 RX5 yX5_isClass wsX5_isClass) := goodIn_app (goodIn_of _ (by decide +kernel)) ggX5_shows_X5_isClass
set_option maxRecDepth 20000 in
theorem ggX5_shows_X5_refuses : GoodIn wsX5_shows wsX5_refuses := goodIn_r _ [11, 12, 56, 57, 58, 59, 60, 61, 62, 63, 64, 65, 66, 67, 68, 69, 70, 71, 72, 73] (by decide +kernel) (by decide +kernel)
set_option maxRecDepth 20000 in
theorem gX5_shows_X5_refuses : GoodIn wsX5_shows (wsV RX5 58 RX5 yX5_refuses wsX5_refuses) := goodIn_app (goodIn_of _ (by decide +kernel)) ggX5_shows_X5_refuses
set_option maxRecDepth 20000 in
theorem ggX5_shows_X5_isShown : GoodIn wsX5_shows wsX5_isShown := goodIn_r _ [16, 17, 18, 19, 5, 20, 21, 22, 23, 24, 25, 26, 27, 28, 29, 30, 31, 32, 33, 34, 35, 36, 37, 38, 39, 40, 41, 42, 43, 44, 45, 46, 47, 48, 49, 50, 51, 52, 53, 54, 55, 56, 57, 58, 59, 60, 61, 62, 63, 64, 65, 66, 67, 68, 69, 70, 71, 72, 73] (by decide +kernel) (by decide +kernel)
set_option maxRecDepth 20000 in
theorem gX5_shows_X5_isShown : GoodIn wsX5_shows (wsV RX5 153 RX5 yX5_isShown wsX5_isShown) := goodIn_app (goodIn_of _ (by decide +kernel)) ggX5_shows_X5_isShown
theorem dX5_shows_0 : decode cX5_shows 0 = .ok (.aload_n 0, 1) := by decide +kernel
theorem dX5_shows_1 : decode cX5_shows 1 = .ok (.aload_n 0, 1) := by decide +kernel
theorem dX5_shows_2 : decode cX5_shows 2 = .ok (.iload_n 2, 1) := by decide +kernel
theorem dX5_shows_3 : decode cX5_shows 3 = .ok (.invokevirtual 103, 3) := by decide +kernel
theorem dX5_shows_6 : decode cX5_shows 6 = .ok (.ifCond .eq 7, 3) := by decide +kernel
theorem dX5_shows_9 : decode cX5_shows 9 = .ok (.iconst 0, 1) := by decide +kernel
theorem dX5_shows_10 : decode cX5_shows 10 = .ok (.goto 4, 3) := by decide +kernel
theorem dX5_shows_13 : decode cX5_shows 13 = .ok (.iconst 1, 1) := by decide +kernel
theorem dX5_shows_14 : decode cX5_shows 14 = .ok (.invokevirtual 58, 3) := by decide +kernel
theorem dX5_shows_17 : decode cX5_shows 17 = .ok (.ifCond .ne 21, 3) := by decide +kernel
theorem dX5_shows_20 : decode cX5_shows 20 = .ok (.aload_n 0, 1) := by decide +kernel
theorem dX5_shows_21 : decode cX5_shows 21 = .ok (.aload_n 0, 1) := by decide +kernel
theorem dX5_shows_22 : decode cX5_shows 22 = .ok (.getfield 28, 3) := by decide +kernel
theorem dX5_shows_25 : decode cX5_shows 25 = .ok (.iload_n 2, 1) := by decide +kernel
theorem dX5_shows_26 : decode cX5_shows 26 = .ok (.iaload, 1) := by decide +kernel
theorem dX5_shows_27 : decode cX5_shows 27 = .ok (.iload_n 1, 1) := by decide +kernel
theorem dX5_shows_28 : decode cX5_shows 28 = .ok (.invokevirtual 153, 3) := by decide +kernel
theorem dX5_shows_31 : decode cX5_shows 31 = .ok (.ifCond .eq 7, 3) := by decide +kernel
theorem dX5_shows_34 : decode cX5_shows 34 = .ok (.iconst 1, 1) := by decide +kernel
theorem dX5_shows_35 : decode cX5_shows 35 = .ok (.goto 4, 3) := by decide +kernel
theorem dX5_shows_38 : decode cX5_shows 38 = .ok (.iconst 0, 1) := by decide +kernel
theorem dX5_shows_39 : decode cX5_shows 39 = .ok (.ireturn, 1) := by decide +kernel
set_option maxRecDepth 20000 in
theorem ggX5_shown_X5_isClass : GoodIn wsX5_shown wsX5_isClass := goodIn_r _ [6, 7, 56, 57, 58, 59, 60, 61, 62, 63, 64, 65, 66, 67, 68, 69, 70, 71, 72, 73] (by decide +kernel) (by decide +kernel)
set_option maxRecDepth 20000 in
theorem gX5_shown_X5_isClass : GoodIn wsX5_shown (wsV RX5 103 RX5 yX5_isClass wsX5_isClass) := goodIn_app (goodIn_of _ (by decide +kernel)) ggX5_shown_X5_isClass
set_option maxRecDepth 20000 in
theorem ggX5_shown_X5_refuses : GoodIn wsX5_shown wsX5_refuses := goodIn_r _ [11, 12, 56, 57, 58, 59, 60, 61, 62, 63, 64, 65, 66, 67, 68, 69, 70, 71, 72, 73] (by decide +kernel) (by decide +kernel)
set_option maxRecDepth 20000 in
theorem gX5_shown_X5_refuses : GoodIn wsX5_shown (wsV RX5 58 RX5 yX5_refuses wsX5_refuses) := goodIn_app (goodIn_of _ (by decide +kernel)) ggX5_shown_X5_refuses
set_option maxRecDepth 20000 in
theorem ggX5_shown_X5_blocks : GoodIn wsX5_shown wsX5_blocks := goodIn_r _ [16, 17, 18, 19, 20, 5, 21, 56, 57, 58, 59, 60, 61, 62, 63, 64, 65, 66, 67, 68, 69, 70, 71, 72, 73] (by decide +kernel) (by decide +kernel)
set_option maxRecDepth 20000 in
theorem gX5_shown_X5_blocks : GoodIn wsX5_shown (wsV RX5 140 RX5 yX5_blocks wsX5_blocks) := goodIn_app (goodIn_of _ (by decide +kernel)) ggX5_shown_X5_blocks
set_option maxRecDepth 20000 in
theorem ggX5_shown_X5_showing : GoodIn wsX5_shown wsX5_showing := goodIn_r _ [25, 26, 27, 28, 29, 30, 31, 32, 5, 33, 34, 35, 36, 37, 38, 39, 40, 41, 42, 43, 44, 45, 46, 47, 48, 49, 50, 51, 52, 53, 54, 55, 17, 18, 19, 20, 21, 56, 57, 58, 59, 60, 61, 62, 63, 64, 65, 66, 67, 68, 69, 70, 71, 72, 73] (by decide +kernel) (by decide +kernel)
set_option maxRecDepth 20000 in
theorem gX5_shown_X5_showing : GoodIn wsX5_shown (wsV RX5 143 RX5 yX5_showing wsX5_showing) := goodIn_app (goodIn_of _ (by decide +kernel)) ggX5_shown_X5_showing
theorem dX5_shown_0 : decode cX5_shown 0 = .ok (.aload_n 0, 1) := by decide +kernel
theorem dX5_shown_1 : decode cX5_shown 1 = .ok (.aload_n 0, 1) := by decide +kernel
theorem dX5_shown_2 : decode cX5_shown 2 = .ok (.iload_n 1, 1) := by decide +kernel
theorem dX5_shown_3 : decode cX5_shown 3 = .ok (.invokevirtual 103, 3) := by decide +kernel
theorem dX5_shown_6 : decode cX5_shown 6 = .ok (.ifCond .eq 7, 3) := by decide +kernel
theorem dX5_shown_9 : decode cX5_shown 9 = .ok (.iconst 0, 1) := by decide +kernel
theorem dX5_shown_10 : decode cX5_shown 10 = .ok (.goto 4, 3) := by decide +kernel
theorem dX5_shown_13 : decode cX5_shown 13 = .ok (.iconst 1, 1) := by decide +kernel
theorem dX5_shown_14 : decode cX5_shown 14 = .ok (.invokevirtual 58, 3) := by decide +kernel
theorem dX5_shown_17 : decode cX5_shown 17 = .ok (.ifCond .eq 5, 3) := by decide +kernel
theorem dX5_shown_20 : decode cX5_shown 20 = .ok (.iconst 0, 1) := by decide +kernel
theorem dX5_shown_21 : decode cX5_shown 21 = .ok (.ireturn, 1) := by decide +kernel
theorem dX5_shown_22 : decode cX5_shown 22 = .ok (.iconst 0, 1) := by decide +kernel
theorem dX5_shown_23 : decode cX5_shown 23 = .ok (.istore_n 2, 1) := by decide +kernel
theorem dX5_shown_24 : decode cX5_shown 24 = .ok (.iconst 0, 1) := by decide +kernel
theorem dX5_shown_25 : decode cX5_shown 25 = .ok (.istore_n 3, 1) := by decide +kernel
theorem dX5_shown_26 : decode cX5_shown 26 = .ok (.iload_n 3, 1) := by decide +kernel
theorem dX5_shown_27 : decode cX5_shown 27 = .ok (.aload_n 0, 1) := by decide +kernel
theorem dX5_shown_28 : decode cX5_shown 28 = .ok (.invokevirtual 140, 3) := by decide +kernel
theorem dX5_shown_31 : decode cX5_shown 31 = .ok (.if_icmp .ge 44, 3) := by decide +kernel
theorem dX5_shown_34 : decode cX5_shown 34 = .ok (.aload_n 0, 1) := by decide +kernel
theorem dX5_shown_35 : decode cX5_shown 35 = .ok (.aload_n 0, 1) := by decide +kernel
theorem dX5_shown_36 : decode cX5_shown 36 = .ok (.getfield 28, 3) := by decide +kernel
theorem dX5_shown_39 : decode cX5_shown 39 = .ok (.iload_n 1, 1) := by decide +kernel
theorem dX5_shown_40 : decode cX5_shown 40 = .ok (.iaload, 1) := by decide +kernel
theorem dX5_shown_41 : decode cX5_shown 41 = .ok (.iload_n 3, 1) := by decide +kernel
theorem dX5_shown_42 : decode cX5_shown 42 = .ok (.invokevirtual 143, 3) := by decide +kernel
theorem dX5_shown_45 : decode cX5_shown 45 = .ok (.lstore 4, 2) := by decide +kernel
theorem dX5_shown_47 : decode cX5_shown 47 = .ok (.lload 4, 2) := by decide +kernel
theorem dX5_shown_49 : decode cX5_shown 49 = .ok (.lconst 0, 1) := by decide +kernel
theorem dX5_shown_50 : decode cX5_shown 50 = .ok (.lcmp, 1) := by decide +kernel
theorem dX5_shown_51 : decode cX5_shown 51 = .ok (.ifCond .eq 18, 3) := by decide +kernel
theorem dX5_shown_54 : decode cX5_shown 54 = .ok (.iinc 2 1, 3) := by decide +kernel
theorem dX5_shown_57 : decode cX5_shown 57 = .ok (.lload 4, 2) := by decide +kernel
theorem dX5_shown_59 : decode cX5_shown 59 = .ok (.lload 4, 2) := by decide +kernel
theorem dX5_shown_61 : decode cX5_shown 61 = .ok (.lconst 1, 1) := by decide +kernel
theorem dX5_shown_62 : decode cX5_shown 62 = .ok (.lsub, 1) := by decide +kernel
theorem dX5_shown_63 : decode cX5_shown 63 = .ok (.land, 1) := by decide +kernel
theorem dX5_shown_64 : decode cX5_shown 64 = .ok (.lstore 4, 2) := by decide +kernel
theorem dX5_shown_66 : decode cX5_shown 66 = .ok (.goto (-19), 3) := by decide +kernel
theorem dX5_shown_69 : decode cX5_shown 69 = .ok (.iinc 3 1, 3) := by decide +kernel
theorem dX5_shown_72 : decode cX5_shown 72 = .ok (.goto (-46), 3) := by decide +kernel
theorem dX5_shown_75 : decode cX5_shown 75 = .ok (.iload_n 2, 1) := by decide +kernel
theorem dX5_shown_76 : decode cX5_shown 76 = .ok (.ireturn, 1) := by decide +kernel
set_option maxRecDepth 20000 in
theorem ggX5_find_X5_isShown : GoodIn wsX5_find wsX5_isShown := goodIn_r _ [8, 9, 10, 11, 7, 12, 13, 14, 15, 16, 17, 18, 19, 20, 21, 22, 23, 24, 25, 26, 27, 28, 29, 30, 31, 32, 33, 34, 35, 36, 37, 38, 39, 40, 41, 42, 43, 44, 45, 46, 47, 48, 49, 50, 51, 52, 53, 54, 55, 56, 57, 58, 59, 60, 61, 62, 63, 64, 65] (by decide +kernel) (by decide +kernel)
set_option maxRecDepth 20000 in
theorem gX5_find_X5_isShown : GoodIn wsX5_find (wsV RX5 153 RX5 yX5_isShown wsX5_isShown) := goodIn_app (goodIn_of _ (by decide +kernel)) ggX5_find_X5_isShown
theorem dX5_find_0 : decode cX5_find 0 = .ok (.iconst 0, 1) := by decide +kernel
theorem dX5_find_1 : decode cX5_find 1 = .ok (.istore_n 2, 1) := by decide +kernel
theorem dX5_find_2 : decode cX5_find 2 = .ok (.iconst 0, 1) := by decide +kernel
theorem dX5_find_3 : decode cX5_find 3 = .ok (.istore_n 3, 1) := by decide +kernel
theorem dX5_find_4 : decode cX5_find 4 = .ok (.iload_n 3, 1) := by decide +kernel
theorem dX5_find_5 : decode cX5_find 5 = .ok (.aload_n 0, 1) := by decide +kernel
theorem dX5_find_6 : decode cX5_find 6 = .ok (.getfield 94, 3) := by decide +kernel
theorem dX5_find_9 : decode cX5_find 9 = .ok (.if_icmp .ge 42, 3) := by decide +kernel
theorem dX5_find_12 : decode cX5_find 12 = .ok (.aload_n 0, 1) := by decide +kernel
theorem dX5_find_13 : decode cX5_find 13 = .ok (.getfield 34, 3) := by decide +kernel
theorem dX5_find_16 : decode cX5_find 16 = .ok (.iload_n 3, 1) := by decide +kernel
theorem dX5_find_17 : decode cX5_find 17 = .ok (.baload, 1) := by decide +kernel
theorem dX5_find_18 : decode cX5_find 18 = .ok (.ifCond .ne 27, 3) := by decide +kernel
theorem dX5_find_21 : decode cX5_find 21 = .ok (.aload_n 0, 1) := by decide +kernel
theorem dX5_find_22 : decode cX5_find 22 = .ok (.aload_n 0, 1) := by decide +kernel
theorem dX5_find_23 : decode cX5_find 23 = .ok (.getfield 28, 3) := by decide +kernel
theorem dX5_find_26 : decode cX5_find 26 = .ok (.iload_n 3, 1) := by decide +kernel
theorem dX5_find_27 : decode cX5_find 27 = .ok (.iaload, 1) := by decide +kernel
theorem dX5_find_28 : decode cX5_find 28 = .ok (.iload_n 1, 1) := by decide +kernel
theorem dX5_find_29 : decode cX5_find 29 = .ok (.invokevirtual 153, 3) := by decide +kernel
theorem dX5_find_32 : decode cX5_find 32 = .ok (.ifCond .eq 13, 3) := by decide +kernel
theorem dX5_find_35 : decode cX5_find 35 = .ok (.aload_n 0, 1) := by decide +kernel
theorem dX5_find_36 : decode cX5_find 36 = .ok (.getfield 34, 3) := by decide +kernel
theorem dX5_find_39 : decode cX5_find 39 = .ok (.iload_n 3, 1) := by decide +kernel
theorem dX5_find_40 : decode cX5_find 40 = .ok (.iconst 1, 1) := by decide +kernel
theorem dX5_find_41 : decode cX5_find 41 = .ok (.bastore, 1) := by decide +kernel
theorem dX5_find_42 : decode cX5_find 42 = .ok (.iinc 2 1, 3) := by decide +kernel
theorem dX5_find_45 : decode cX5_find 45 = .ok (.iinc 3 1, 3) := by decide +kernel
theorem dX5_find_48 : decode cX5_find 48 = .ok (.goto (-44), 3) := by decide +kernel
theorem dX5_find_51 : decode cX5_find 51 = .ok (.iload_n 2, 1) := by decide +kernel
theorem dX5_find_52 : decode cX5_find 52 = .ok (.ireturn, 1) := by decide +kernel
set_option maxRecDepth 20000 in
theorem ggX5_run_X5_testOf : GoodIn wsX5_run wsX5_testOf := goodIn_r _ [11, 12, 13, 14, 10, 15, 16, 17, 18, 19, 20, 21, 22, 23, 24, 25, 26, 27, 28, 29, 30, 31, 32, 33, 34, 35, 36, 37, 38, 39, 40, 41, 42, 43, 44, 45, 46, 47, 48, 49, 50, 51, 52, 53, 54, 55, 56, 57, 66, 67, 68, 69, 70, 71, 72, 73, 74, 75, 76, 77, 78, 79, 80, 81, 82, 83] (by decide +kernel) (by decide +kernel)
set_option maxRecDepth 20000 in
theorem gX5_run_X5_testOf : GoodIn wsX5_run (wsV RX5 150 RX5 yX5_testOf wsX5_testOf) := goodIn_app (goodIn_of _ (by decide +kernel)) ggX5_run_X5_testOf
set_option maxRecDepth 20000 in
theorem ggX5_run_X5_find : GoodIn wsX5_run wsX5_find := goodIn_r _ [61, 3, 4, 5, 62, 63, 64, 10, 65, 17, 18, 19, 20, 16, 21, 22, 23, 24, 25, 26, 27, 28, 29, 30, 31, 32, 33, 34, 35, 36, 37, 38, 39, 40, 41, 42, 43, 44, 45, 46, 47, 48, 49, 50, 51, 52, 53, 54, 66, 67, 68, 69, 70, 71, 72, 73, 74, 75, 76, 77, 78, 79, 80, 81, 82, 83] (by decide +kernel) (by decide +kernel)
set_option maxRecDepth 20000 in
theorem gX5_run_X5_find : GoodIn wsX5_run (wsV RX5 157 RX5 yX5_find wsX5_find) := goodIn_app (goodIn_of _ (by decide +kernel)) ggX5_run_X5_find
theorem dX5_run_0 : decode cX5_run 0 = .ok (.aload_n 0, 1) := by decide +kernel
theorem dX5_run_1 : decode cX5_run 1 = .ok (.iconst 0, 1) := by decide +kernel
theorem dX5_run_2 : decode cX5_run 2 = .ok (.putfield 48, 3) := by decide +kernel
theorem dX5_run_5 : decode cX5_run 5 = .ok (.aload_n 0, 1) := by decide +kernel
theorem dX5_run_6 : decode cX5_run 6 = .ok (.iconst 0, 1) := by decide +kernel
theorem dX5_run_7 : decode cX5_run 7 = .ok (.putfield 100, 3) := by decide +kernel
theorem dX5_run_10 : decode cX5_run 10 = .ok (.iconst 0, 1) := by decide +kernel
theorem dX5_run_11 : decode cX5_run 11 = .ok (.istore_n 1, 1) := by decide +kernel
theorem dX5_run_12 : decode cX5_run 12 = .ok (.iload_n 1, 1) := by decide +kernel
theorem dX5_run_13 : decode cX5_run 13 = .ok (.aload_n 0, 1) := by decide +kernel
theorem dX5_run_14 : decode cX5_run 14 = .ok (.getfield 94, 3) := by decide +kernel
theorem dX5_run_17 : decode cX5_run 17 = .ok (.if_icmp .ge 64, 3) := by decide +kernel
theorem dX5_run_20 : decode cX5_run 20 = .ok (.aload_n 0, 1) := by decide +kernel
theorem dX5_run_21 : decode cX5_run 21 = .ok (.getfield 34, 3) := by decide +kernel
theorem dX5_run_24 : decode cX5_run 24 = .ok (.iload_n 1, 1) := by decide +kernel
theorem dX5_run_25 : decode cX5_run 25 = .ok (.baload, 1) := by decide +kernel
theorem dX5_run_26 : decode cX5_run 26 = .ok (.ifCond .eq 7, 3) := by decide +kernel
theorem dX5_run_29 : decode cX5_run 29 = .ok (.iconst (-1), 1) := by decide +kernel
theorem dX5_run_30 : decode cX5_run 30 = .ok (.goto 13, 3) := by decide +kernel
theorem dX5_run_33 : decode cX5_run 33 = .ok (.aload_n 0, 1) := by decide +kernel
theorem dX5_run_34 : decode cX5_run 34 = .ok (.aload_n 0, 1) := by decide +kernel
theorem dX5_run_35 : decode cX5_run 35 = .ok (.getfield 28, 3) := by decide +kernel
theorem dX5_run_38 : decode cX5_run 38 = .ok (.iload_n 1, 1) := by decide +kernel
theorem dX5_run_39 : decode cX5_run 39 = .ok (.iaload, 1) := by decide +kernel
theorem dX5_run_40 : decode cX5_run 40 = .ok (.invokevirtual 150, 3) := by decide +kernel
theorem dX5_run_43 : decode cX5_run 43 = .ok (.istore_n 2, 1) := by decide +kernel
theorem dX5_run_44 : decode cX5_run 44 = .ok (.iload_n 2, 1) := by decide +kernel
theorem dX5_run_45 : decode cX5_run 45 = .ok (.iconst (-1), 1) := by decide +kernel
theorem dX5_run_46 : decode cX5_run 46 = .ok (.if_icmp .eq 29, 3) := by decide +kernel
theorem dX5_run_49 : decode cX5_run 49 = .ok (.aload_n 0, 1) := by decide +kernel
theorem dX5_run_50 : decode cX5_run 50 = .ok (.getfield 38, 3) := by decide +kernel
theorem dX5_run_53 : decode cX5_run 53 = .ok (.aload_n 0, 1) := by decide +kernel
theorem dX5_run_54 : decode cX5_run 54 = .ok (.getfield 100, 3) := by decide +kernel
theorem dX5_run_57 : decode cX5_run 57 = .ok (.iload_n 2, 1) := by decide +kernel
theorem dX5_run_58 : decode cX5_run 58 = .ok (.iastore, 1) := by decide +kernel
theorem dX5_run_59 : decode cX5_run 59 = .ok (.aload_n 0, 1) := by decide +kernel
theorem dX5_run_60 : decode cX5_run 60 = .ok (.dup, 1) := by decide +kernel
theorem dX5_run_61 : decode cX5_run 61 = .ok (.getfield 100, 3) := by decide +kernel
theorem dX5_run_64 : decode cX5_run 64 = .ok (.iconst 1, 1) := by decide +kernel
theorem dX5_run_65 : decode cX5_run 65 = .ok (.iadd, 1) := by decide +kernel
theorem dX5_run_66 : decode cX5_run 66 = .ok (.putfield 100, 3) := by decide +kernel
theorem dX5_run_69 : decode cX5_run 69 = .ok (.aload_n 0, 1) := by decide +kernel
theorem dX5_run_70 : decode cX5_run 70 = .ok (.iload_n 2, 1) := by decide +kernel
theorem dX5_run_71 : decode cX5_run 71 = .ok (.invokevirtual 157, 3) := by decide +kernel
theorem dX5_run_74 : decode cX5_run 74 = .ok (.pop, 1) := by decide +kernel
theorem dX5_run_75 : decode cX5_run 75 = .ok (.iinc 1 1, 3) := by decide +kernel
theorem dX5_run_78 : decode cX5_run 78 = .ok (.goto (-66), 3) := by decide +kernel
theorem dX5_run_81 : decode cX5_run 81 = .ok (.aload_n 0, 1) := by decide +kernel
theorem dX5_run_82 : decode cX5_run 82 = .ok (.getfield 100, 3) := by decide +kernel
theorem dX5_run_85 : decode cX5_run 85 = .ok (.ireturn, 1) := by decide +kernel
set_option maxRecDepth 20000 in
theorem ggX5_pattern_X5_refuses : GoodIn wsX5_pattern wsX5_refuses := goodIn_r _ [7, 8, 9, 10, 11, 12, 13, 14, 15, 16, 17, 18, 19, 20, 21, 22, 23, 24, 25, 26] (by decide +kernel) (by decide +kernel)
set_option maxRecDepth 20000 in
theorem gX5_pattern_X5_refuses : GoodIn wsX5_pattern (wsV RX5 58 RX5 yX5_refuses wsX5_refuses) := goodIn_app (goodIn_of _ (by decide +kernel)) ggX5_pattern_X5_refuses
theorem dX5_pattern_0 : decode cX5_pattern 0 = .ok (.aload_n 0, 1) := by decide +kernel
theorem dX5_pattern_1 : decode cX5_pattern 1 = .ok (.iload_n 1, 1) := by decide +kernel
theorem dX5_pattern_2 : decode cX5_pattern 2 = .ok (.ifCond .lt 11, 3) := by decide +kernel
theorem dX5_pattern_5 : decode cX5_pattern 5 = .ok (.iload_n 1, 1) := by decide +kernel
theorem dX5_pattern_6 : decode cX5_pattern 6 = .ok (.aload_n 0, 1) := by decide +kernel
theorem dX5_pattern_7 : decode cX5_pattern 7 = .ok (.getfield 100, 3) := by decide +kernel
theorem dX5_pattern_10 : decode cX5_pattern 10 = .ok (.if_icmp .lt 7, 3) := by decide +kernel
theorem dX5_pattern_13 : decode cX5_pattern 13 = .ok (.iconst 1, 1) := by decide +kernel
theorem dX5_pattern_14 : decode cX5_pattern 14 = .ok (.goto 4, 3) := by decide +kernel
theorem dX5_pattern_17 : decode cX5_pattern 17 = .ok (.iconst 0, 1) := by decide +kernel
theorem dX5_pattern_18 : decode cX5_pattern 18 = .ok (.invokevirtual 58, 3) := by decide +kernel
theorem dX5_pattern_21 : decode cX5_pattern 21 = .ok (.ifCond .eq 7, 3) := by decide +kernel
theorem dX5_pattern_24 : decode cX5_pattern 24 = .ok (.iconst 0, 1) := by decide +kernel
theorem dX5_pattern_25 : decode cX5_pattern 25 = .ok (.goto 9, 3) := by decide +kernel
theorem dX5_pattern_28 : decode cX5_pattern 28 = .ok (.aload_n 0, 1) := by decide +kernel
theorem dX5_pattern_29 : decode cX5_pattern 29 = .ok (.getfield 38, 3) := by decide +kernel
theorem dX5_pattern_32 : decode cX5_pattern 32 = .ok (.iload_n 1, 1) := by decide +kernel
theorem dX5_pattern_33 : decode cX5_pattern 33 = .ok (.iaload, 1) := by decide +kernel
theorem dX5_pattern_34 : decode cX5_pattern 34 = .ok (.ireturn, 1) := by decide +kernel
set_option maxRecDepth 20000 in
theorem ggX5_simulate_X5_find : GoodIn wsX5_simulate wsX5_find := goodIn_r _ [6, 7, 8, 9, 10, 11, 12, 5, 13, 14, 15, 16, 17, 18, 19, 20, 21, 22, 23, 24, 25, 26, 27, 28, 29, 30, 31, 32, 33, 34, 35, 36, 37, 38, 39, 40, 41, 42, 43, 44, 45, 46, 47, 48, 49, 50, 51, 52, 53, 54, 55, 56, 57, 58, 59, 60, 61, 62, 63, 64, 65, 66, 67, 68, 69, 70] (by decide +kernel) (by decide +kernel)
set_option maxRecDepth 20000 in
theorem gX5_simulate_X5_find : GoodIn wsX5_simulate (wsV RX5 157 RX5 yX5_find wsX5_find) := goodIn_app (goodIn_of _ (by decide +kernel)) ggX5_simulate_X5_find
theorem dX5_simulate_0 : decode cX5_simulate 0 = .ok (.aload_n 0, 1) := by decide +kernel
theorem dX5_simulate_1 : decode cX5_simulate 1 = .ok (.iconst 0, 1) := by decide +kernel
theorem dX5_simulate_2 : decode cX5_simulate 2 = .ok (.putfield 48, 3) := by decide +kernel
theorem dX5_simulate_5 : decode cX5_simulate 5 = .ok (.aload_n 0, 1) := by decide +kernel
theorem dX5_simulate_6 : decode cX5_simulate 6 = .ok (.iload_n 1, 1) := by decide +kernel
theorem dX5_simulate_7 : decode cX5_simulate 7 = .ok (.invokevirtual 157, 3) := by decide +kernel
theorem dX5_simulate_10 : decode cX5_simulate 10 = .ok (.ireturn, 1) := by decide +kernel
set_option maxRecDepth 20000 in
theorem ggX5_left_X5_refuses : GoodIn wsX5_left wsX5_refuses := goodIn_r _ [7, 8, 9, 10, 11, 12, 13, 14, 15, 16, 17, 18, 19, 20, 21, 22, 23, 24, 25, 26] (by decide +kernel) (by decide +kernel)
set_option maxRecDepth 20000 in
theorem gX5_left_X5_refuses : GoodIn wsX5_left (wsV RX5 58 RX5 yX5_refuses wsX5_refuses) := goodIn_app (goodIn_of _ (by decide +kernel)) ggX5_left_X5_refuses
theorem dX5_left_0 : decode cX5_left 0 = .ok (.aload_n 0, 1) := by decide +kernel
theorem dX5_left_1 : decode cX5_left 1 = .ok (.iload_n 1, 1) := by decide +kernel
theorem dX5_left_2 : decode cX5_left 2 = .ok (.ifCond .ge 7, 3) := by decide +kernel
theorem dX5_left_5 : decode cX5_left 5 = .ok (.iconst 1, 1) := by decide +kernel
theorem dX5_left_6 : decode cX5_left 6 = .ok (.goto 4, 3) := by decide +kernel
theorem dX5_left_9 : decode cX5_left 9 = .ok (.iconst 0, 1) := by decide +kernel
theorem dX5_left_10 : decode cX5_left 10 = .ok (.invokevirtual 58, 3) := by decide +kernel
theorem dX5_left_13 : decode cX5_left 13 = .ok (.ifCond .eq 5, 3) := by decide +kernel
theorem dX5_left_16 : decode cX5_left 16 = .ok (.iconst 0, 1) := by decide +kernel
theorem dX5_left_17 : decode cX5_left 17 = .ok (.ireturn, 1) := by decide +kernel
theorem dX5_left_18 : decode cX5_left 18 = .ok (.iconst 0, 1) := by decide +kernel
theorem dX5_left_19 : decode cX5_left 19 = .ok (.istore_n 2, 1) := by decide +kernel
theorem dX5_left_20 : decode cX5_left 20 = .ok (.iconst 0, 1) := by decide +kernel
theorem dX5_left_21 : decode cX5_left 21 = .ok (.istore_n 3, 1) := by decide +kernel
theorem dX5_left_22 : decode cX5_left 22 = .ok (.iload_n 3, 1) := by decide +kernel
theorem dX5_left_23 : decode cX5_left 23 = .ok (.aload_n 0, 1) := by decide +kernel
theorem dX5_left_24 : decode cX5_left 24 = .ok (.getfield 94, 3) := by decide +kernel
theorem dX5_left_27 : decode cX5_left 27 = .ok (.if_icmp .ge 28, 3) := by decide +kernel
theorem dX5_left_30 : decode cX5_left 30 = .ok (.aload_n 0, 1) := by decide +kernel
theorem dX5_left_31 : decode cX5_left 31 = .ok (.getfield 34, 3) := by decide +kernel
theorem dX5_left_34 : decode cX5_left 34 = .ok (.iload_n 3, 1) := by decide +kernel
theorem dX5_left_35 : decode cX5_left 35 = .ok (.baload, 1) := by decide +kernel
theorem dX5_left_36 : decode cX5_left 36 = .ok (.ifCond .ne 13, 3) := by decide +kernel
theorem dX5_left_39 : decode cX5_left 39 = .ok (.iload_n 2, 1) := by decide +kernel
theorem dX5_left_40 : decode cX5_left 40 = .ok (.iload_n 1, 1) := by decide +kernel
theorem dX5_left_41 : decode cX5_left 41 = .ok (.if_icmp .ne 5, 3) := by decide +kernel
theorem dX5_left_44 : decode cX5_left 44 = .ok (.iload_n 3, 1) := by decide +kernel
theorem dX5_left_45 : decode cX5_left 45 = .ok (.ireturn, 1) := by decide +kernel
theorem dX5_left_46 : decode cX5_left 46 = .ok (.iinc 2 1, 3) := by decide +kernel
theorem dX5_left_49 : decode cX5_left 49 = .ok (.iinc 3 1, 3) := by decide +kernel
theorem dX5_left_52 : decode cX5_left 52 = .ok (.goto (-30), 3) := by decide +kernel
theorem dX5_left_55 : decode cX5_left 55 = .ok (.iconst (-1), 1) := by decide +kernel
theorem dX5_left_56 : decode cX5_left 56 = .ok (.ireturn, 1) := by decide +kernel
theorem dX5_reset_0 : decode cX5_reset 0 = .ok (.aload_n 0, 1) := by decide +kernel
theorem dX5_reset_1 : decode cX5_reset 1 = .ok (.iconst 0, 1) := by decide +kernel
theorem dX5_reset_2 : decode cX5_reset 2 = .ok (.putfield 48, 3) := by decide +kernel
theorem dX5_reset_5 : decode cX5_reset 5 = .ok (.iconst 0, 1) := by decide +kernel
theorem dX5_reset_6 : decode cX5_reset 6 = .ok (.istore_n 1, 1) := by decide +kernel
theorem dX5_reset_7 : decode cX5_reset 7 = .ok (.iload_n 1, 1) := by decide +kernel
theorem dX5_reset_8 : decode cX5_reset 8 = .ok (.sipush 600, 3) := by decide +kernel
theorem dX5_reset_11 : decode cX5_reset 11 = .ok (.if_icmp .ge 16, 3) := by decide +kernel
theorem dX5_reset_14 : decode cX5_reset 14 = .ok (.aload_n 0, 1) := by decide +kernel
theorem dX5_reset_15 : decode cX5_reset 15 = .ok (.getfield 34, 3) := by decide +kernel
theorem dX5_reset_18 : decode cX5_reset 18 = .ok (.iload_n 1, 1) := by decide +kernel
theorem dX5_reset_19 : decode cX5_reset 19 = .ok (.iconst 0, 1) := by decide +kernel
theorem dX5_reset_20 : decode cX5_reset 20 = .ok (.bastore, 1) := by decide +kernel
theorem dX5_reset_21 : decode cX5_reset 21 = .ok (.iinc 1 1, 3) := by decide +kernel
theorem dX5_reset_24 : decode cX5_reset 24 = .ok (.goto (-17), 3) := by decide +kernel
theorem dX5_reset_27 : decode cX5_reset 27 = .ok (.return_, 1) := by decide +kernel
set_option maxRecDepth 20000 in
theorem ggX5_leastWith_X5_blocks : GoodIn wsX5_leastWith wsX5_blocks := goodIn_r _ [7, 8, 9, 10, 11, 6, 12, 41, 42, 43, 44, 45, 46, 47, 48, 49, 50, 51, 52, 53, 54, 55, 56, 57, 58] (by decide +kernel) (by decide +kernel)
set_option maxRecDepth 20000 in
theorem gX5_leastWith_X5_blocks : GoodIn wsX5_leastWith (wsV RX5 140 RX5 yX5_blocks wsX5_blocks) := goodIn_app (goodIn_of _ (by decide +kernel)) ggX5_leastWith_X5_blocks
set_option maxRecDepth 20000 in
theorem ggX5_leastWith_X5_tell : GoodIn wsX5_leastWith wsX5_tell := goodIn_r _ [16, 2, 17, 18, 19, 20, 21, 22, 23, 6, 24, 25, 26, 27, 28, 29, 30, 31, 32, 33, 41, 42, 43, 44, 45, 46, 47, 48, 49, 50, 51, 52, 53, 54, 55, 56, 57, 58] (by decide +kernel) (by decide +kernel)
set_option maxRecDepth 20000 in
theorem gX5_leastWith_X5_tell : GoodIn wsX5_leastWith (wsV RX5 132 RX5 yX5_tell wsX5_tell) := goodIn_app (goodIn_of _ (by decide +kernel)) ggX5_leastWith_X5_tell
set_option maxRecDepth 20000 in
theorem ggX5_leastWith_X5_there : GoodIn wsX5_leastWith wsX5_there := goodIn_r _ [37, 8, 2, 9, 10, 11, 6, 12, 41, 42, 43, 44, 45, 46, 47, 48, 49, 50, 51, 52, 53, 54, 55, 56, 57, 58] (by decide +kernel) (by decide +kernel)
set_option maxRecDepth 20000 in
theorem gX5_leastWith_X5_there : GoodIn wsX5_leastWith (wsV RX5 136 RX5 yX5_there wsX5_there) := goodIn_app (goodIn_of _ (by decide +kernel)) ggX5_leastWith_X5_there
set_option maxRecDepth 20000 in
theorem ggX5_leastWith_X5_firstOf : GoodIn wsX5_leastWith wsX5_firstOf := goodIn_r _ [40] (by decide +kernel) (by decide +kernel)
set_option maxRecDepth 20000 in
theorem gX5_leastWith_X5_firstOf : GoodIn wsX5_leastWith (va_wsS RX5 146 yX5_firstOf wsX5_firstOf) := goodIn_app (goodIn_of _ (by decide +kernel)) ggX5_leastWith_X5_firstOf
theorem dX5_leastWith_0 : decode cX5_leastWith 0 = .ok (.iconst 0, 1) := by decide +kernel
theorem dX5_leastWith_1 : decode cX5_leastWith 1 = .ok (.istore_n 3, 1) := by decide +kernel
theorem dX5_leastWith_2 : decode cX5_leastWith 2 = .ok (.iload_n 3, 1) := by decide +kernel
theorem dX5_leastWith_3 : decode cX5_leastWith 3 = .ok (.aload_n 0, 1) := by decide +kernel
theorem dX5_leastWith_4 : decode cX5_leastWith 4 = .ok (.invokevirtual 140, 3) := by decide +kernel
theorem dX5_leastWith_7 : decode cX5_leastWith 7 = .ok (.if_icmp .ge 68, 3) := by decide +kernel
theorem dX5_leastWith_10 : decode cX5_leastWith 10 = .ok (.aload_n 0, 1) := by decide +kernel
theorem dX5_leastWith_11 : decode cX5_leastWith 11 = .ok (.aload_n 0, 1) := by decide +kernel
theorem dX5_leastWith_12 : decode cX5_leastWith 12 = .ok (.getfield 41, 3) := by decide +kernel
theorem dX5_leastWith_15 : decode cX5_leastWith 15 = .ok (.iload_n 3, 1) := by decide +kernel
theorem dX5_leastWith_16 : decode cX5_leastWith 16 = .ok (.iconst (-1), 1) := by decide +kernel
theorem dX5_leastWith_17 : decode cX5_leastWith 17 = .ok (.invokevirtual 132, 3) := by decide +kernel
theorem dX5_leastWith_20 : decode cX5_leastWith 20 = .ok (.iload_n 2, 1) := by decide +kernel
theorem dX5_leastWith_21 : decode cX5_leastWith 21 = .ok (.iconst 1, 1) := by decide +kernel
theorem dX5_leastWith_22 : decode cX5_leastWith 22 = .ok (.if_icmp .ne 12, 3) := by decide +kernel
theorem dX5_leastWith_25 : decode cX5_leastWith 25 = .ok (.aload_n 0, 1) := by decide +kernel
theorem dX5_leastWith_26 : decode cX5_leastWith 26 = .ok (.getfield 41, 3) := by decide +kernel
theorem dX5_leastWith_29 : decode cX5_leastWith 29 = .ok (.iload_n 1, 1) := by decide +kernel
theorem dX5_leastWith_30 : decode cX5_leastWith 30 = .ok (.laload, 1) := by decide +kernel
theorem dX5_leastWith_31 : decode cX5_leastWith 31 = .ok (.goto 13, 3) := by decide +kernel
theorem dX5_leastWith_34 : decode cX5_leastWith 34 = .ok (.aload_n 0, 1) := by decide +kernel
theorem dX5_leastWith_35 : decode cX5_leastWith 35 = .ok (.getfield 41, 3) := by decide +kernel
theorem dX5_leastWith_38 : decode cX5_leastWith 38 = .ok (.iload_n 1, 1) := by decide +kernel
theorem dX5_leastWith_39 : decode cX5_leastWith 39 = .ok (.laload, 1) := by decide +kernel
theorem dX5_leastWith_40 : decode cX5_leastWith 40 = .ok (.ldc2_w 118, 3) := by decide +kernel
theorem dX5_leastWith_43 : decode cX5_leastWith 43 = .ok (.lxor, 1) := by decide +kernel
theorem dX5_leastWith_44 : decode cX5_leastWith 44 = .ok (.aload_n 0, 1) := by decide +kernel
theorem dX5_leastWith_45 : decode cX5_leastWith 45 = .ok (.invokevirtual 136, 3) := by decide +kernel
theorem dX5_leastWith_48 : decode cX5_leastWith 48 = .ok (.land, 1) := by decide +kernel
theorem dX5_leastWith_49 : decode cX5_leastWith 49 = .ok (.lstore 4, 2) := by decide +kernel
theorem dX5_leastWith_51 : decode cX5_leastWith 51 = .ok (.lload 4, 2) := by decide +kernel
theorem dX5_leastWith_53 : decode cX5_leastWith 53 = .ok (.lconst 0, 1) := by decide +kernel
theorem dX5_leastWith_54 : decode cX5_leastWith 54 = .ok (.lcmp, 1) := by decide +kernel
theorem dX5_leastWith_55 : decode cX5_leastWith 55 = .ok (.ifCond .eq 14, 3) := by decide +kernel
theorem dX5_leastWith_58 : decode cX5_leastWith 58 = .ok (.bipush 64, 2) := by decide +kernel
theorem dX5_leastWith_60 : decode cX5_leastWith 60 = .ok (.iload_n 3, 1) := by decide +kernel
theorem dX5_leastWith_61 : decode cX5_leastWith 61 = .ok (.imul, 1) := by decide +kernel
theorem dX5_leastWith_62 : decode cX5_leastWith 62 = .ok (.lload 4, 2) := by decide +kernel
theorem dX5_leastWith_64 : decode cX5_leastWith 64 = .ok (.invokestatic 146, 3) := by decide +kernel
theorem dX5_leastWith_67 : decode cX5_leastWith 67 = .ok (.iadd, 1) := by decide +kernel
theorem dX5_leastWith_68 : decode cX5_leastWith 68 = .ok (.ireturn, 1) := by decide +kernel
theorem dX5_leastWith_69 : decode cX5_leastWith 69 = .ok (.iinc 3 1, 3) := by decide +kernel
theorem dX5_leastWith_72 : decode cX5_leastWith 72 = .ok (.goto (-70), 3) := by decide +kernel
theorem dX5_leastWith_75 : decode cX5_leastWith 75 = .ok (.iconst (-1), 1) := by decide +kernel
theorem dX5_leastWith_76 : decode cX5_leastWith 76 = .ok (.ireturn, 1) := by decide +kernel
set_option maxRecDepth 20000 in
theorem ggX5_slow_X5_isNet : GoodIn wsX5_slow wsX5_isNet := goodIn_r _ [5, 6, 68, 69, 70, 71, 72, 73, 74, 75, 76, 77, 78, 79, 80, 81, 82, 83, 84, 85] (by decide +kernel) (by decide +kernel)
set_option maxRecDepth 20000 in
theorem gX5_slow_X5_isNet : GoodIn wsX5_slow (wsV RX5 65 RX5 yX5_isNet wsX5_isNet) := goodIn_app (goodIn_of _ (by decide +kernel)) ggX5_slow_X5_isNet
set_option maxRecDepth 20000 in
theorem ggX5_slow_X5_refuses : GoodIn wsX5_slow wsX5_refuses := goodIn_r _ [10, 11, 68, 69, 70, 71, 72, 73, 74, 75, 76, 77, 78, 79, 80, 81, 82, 83, 84, 85] (by decide +kernel) (by decide +kernel)
set_option maxRecDepth 20000 in
theorem gX5_slow_X5_refuses : GoodIn wsX5_slow (wsV RX5 58 RX5 yX5_refuses wsX5_refuses) := goodIn_app (goodIn_of _ (by decide +kernel)) ggX5_slow_X5_refuses
set_option maxRecDepth 20000 in
theorem ggX5_slow_X5_faultOf : GoodIn wsX5_slow wsX5_faultOf := goodIn_r _ [14] (by decide +kernel) (by decide +kernel)
set_option maxRecDepth 20000 in
theorem gX5_slow_X5_faultOf : GoodIn wsX5_slow (va_wsS RX5 75 yX5_faultOf wsX5_faultOf) := goodIn_app (goodIn_of _ (by decide +kernel)) ggX5_slow_X5_faultOf
set_option maxRecDepth 20000 in
theorem ggX5_slow_X5_testOf : GoodIn wsX5_slow wsX5_testOf := goodIn_r _ [18, 19, 20, 21, 4, 22, 23, 24, 25, 26, 27, 28, 29, 30, 31, 32, 33, 34, 35, 36, 37, 38, 39, 40, 6, 41, 42, 43, 44, 45, 46, 47, 48, 49, 50, 51, 52, 53, 54, 55, 56, 57, 58, 59, 60, 61, 62, 63, 68, 69, 70, 71, 72, 73, 74, 75, 76, 77, 78, 79, 80, 81, 82, 83, 84, 85] (by decide +kernel) (by decide +kernel)
set_option maxRecDepth 20000 in
theorem gX5_slow_X5_testOf : GoodIn wsX5_slow (wsV RX5 150 RX5 yX5_testOf wsX5_testOf) := goodIn_app (goodIn_of _ (by decide +kernel)) ggX5_slow_X5_testOf
set_option maxRecDepth 20000 in
theorem ggX5_slow_X5_leastWith : GoodIn wsX5_slow wsX5_leastWith := goodIn_r _ [67, 32, 40, 19, 20, 21, 4, 22, 23, 24, 25, 26, 27, 36, 37, 38, 39, 6, 41, 42, 43, 44, 45, 46, 47, 48, 49, 50, 51, 52, 53, 54, 55, 56, 57, 58, 59, 60, 61, 62, 63, 68, 69, 70, 71, 72, 73, 74, 75, 76, 77, 78, 79, 80, 81, 82, 83, 84, 85] (by decide +kernel) (by decide +kernel)
set_option maxRecDepth 20000 in
theorem gX5_slow_X5_leastWith : GoodIn wsX5_slow (wsV RX5 160 RX5 yX5_leastWith wsX5_leastWith) := goodIn_app (goodIn_of _ (by decide +kernel)) ggX5_slow_X5_leastWith
theorem dX5_slow_0 : decode cX5_slow 0 = .ok (.aload_n 0, 1) := by decide +kernel
theorem dX5_slow_1 : decode cX5_slow 1 = .ok (.aload_n 0, 1) := by decide +kernel
theorem dX5_slow_2 : decode cX5_slow 2 = .ok (.iload_n 1, 1) := by decide +kernel
theorem dX5_slow_3 : decode cX5_slow 3 = .ok (.invokevirtual 65, 3) := by decide +kernel
theorem dX5_slow_6 : decode cX5_slow 6 = .ok (.ifCond .eq 21, 3) := by decide +kernel
theorem dX5_slow_9 : decode cX5_slow 9 = .ok (.iload_n 2, 1) := by decide +kernel
theorem dX5_slow_10 : decode cX5_slow 10 = .ok (.ifCond .lt 17, 3) := by decide +kernel
theorem dX5_slow_13 : decode cX5_slow 13 = .ok (.iload_n 2, 1) := by decide +kernel
theorem dX5_slow_14 : decode cX5_slow 14 = .ok (.iconst 1, 1) := by decide +kernel
theorem dX5_slow_15 : decode cX5_slow 15 = .ok (.if_icmp .gt 12, 3) := by decide +kernel
theorem dX5_slow_18 : decode cX5_slow 18 = .ok (.iload_n 3, 1) := by decide +kernel
theorem dX5_slow_19 : decode cX5_slow 19 = .ok (.ifCond .lt 8, 3) := by decide +kernel
theorem dX5_slow_22 : decode cX5_slow 22 = .ok (.iload_n 3, 1) := by decide +kernel
theorem dX5_slow_23 : decode cX5_slow 23 = .ok (.iconst 1, 1) := by decide +kernel
theorem dX5_slow_24 : decode cX5_slow 24 = .ok (.if_icmp .le 7, 3) := by decide +kernel
theorem dX5_slow_27 : decode cX5_slow 27 = .ok (.iconst 1, 1) := by decide +kernel
theorem dX5_slow_28 : decode cX5_slow 28 = .ok (.goto 4, 3) := by decide +kernel
theorem dX5_slow_31 : decode cX5_slow 31 = .ok (.iconst 0, 1) := by decide +kernel
theorem dX5_slow_32 : decode cX5_slow 32 = .ok (.invokevirtual 58, 3) := by decide +kernel
theorem dX5_slow_35 : decode cX5_slow 35 = .ok (.ifCond .eq 5, 3) := by decide +kernel
theorem dX5_slow_38 : decode cX5_slow 38 = .ok (.iconst 0, 1) := by decide +kernel
theorem dX5_slow_39 : decode cX5_slow 39 = .ok (.ireturn, 1) := by decide +kernel
theorem dX5_slow_40 : decode cX5_slow 40 = .ok (.aload_n 0, 1) := by decide +kernel
theorem dX5_slow_41 : decode cX5_slow 41 = .ok (.iload_n 1, 1) := by decide +kernel
theorem dX5_slow_42 : decode cX5_slow 42 = .ok (.iconst (-1), 1) := by decide +kernel
theorem dX5_slow_43 : decode cX5_slow 43 = .ok (.iconst 1, 1) := by decide +kernel
theorem dX5_slow_44 : decode cX5_slow 44 = .ok (.iload_n 2, 1) := by decide +kernel
theorem dX5_slow_45 : decode cX5_slow 45 = .ok (.isub, 1) := by decide +kernel
theorem dX5_slow_46 : decode cX5_slow 46 = .ok (.invokestatic 75, 3) := by decide +kernel
theorem dX5_slow_49 : decode cX5_slow 49 = .ok (.invokevirtual 150, 3) := by decide +kernel
theorem dX5_slow_52 : decode cX5_slow 52 = .ok (.istore 4, 2) := by decide +kernel
theorem dX5_slow_54 : decode cX5_slow 54 = .ok (.aload_n 0, 1) := by decide +kernel
theorem dX5_slow_55 : decode cX5_slow 55 = .ok (.iload_n 1, 1) := by decide +kernel
theorem dX5_slow_56 : decode cX5_slow 56 = .ok (.iconst 1, 1) := by decide +kernel
theorem dX5_slow_57 : decode cX5_slow 57 = .ok (.iload_n 2, 1) := by decide +kernel
theorem dX5_slow_58 : decode cX5_slow 58 = .ok (.isub, 1) := by decide +kernel
theorem dX5_slow_59 : decode cX5_slow 59 = .ok (.invokevirtual 160, 3) := by decide +kernel
theorem dX5_slow_62 : decode cX5_slow 62 = .ok (.istore 5, 2) := by decide +kernel
theorem dX5_slow_64 : decode cX5_slow 64 = .ok (.iload 4, 2) := by decide +kernel
theorem dX5_slow_66 : decode cX5_slow 66 = .ok (.iconst (-1), 1) := by decide +kernel
theorem dX5_slow_67 : decode cX5_slow 67 = .ok (.if_icmp .eq 9, 3) := by decide +kernel
theorem dX5_slow_70 : decode cX5_slow 70 = .ok (.iload 5, 2) := by decide +kernel
theorem dX5_slow_72 : decode cX5_slow 72 = .ok (.iconst (-1), 1) := by decide +kernel
theorem dX5_slow_73 : decode cX5_slow 73 = .ok (.if_icmp .ne 7, 3) := by decide +kernel
theorem dX5_slow_76 : decode cX5_slow 76 = .ok (.iconst (-1), 1) := by decide +kernel
theorem dX5_slow_77 : decode cX5_slow 77 = .ok (.goto 14, 3) := by decide +kernel
theorem dX5_slow_80 : decode cX5_slow 80 = .ok (.iload_n 3, 1) := by decide +kernel
theorem dX5_slow_81 : decode cX5_slow 81 = .ok (.ifCond .ne 8, 3) := by decide +kernel
theorem dX5_slow_84 : decode cX5_slow 84 = .ok (.iload 5, 2) := by decide +kernel
theorem dX5_slow_86 : decode cX5_slow 86 = .ok (.goto 5, 3) := by decide +kernel
theorem dX5_slow_89 : decode cX5_slow 89 = .ok (.iload 4, 2) := by decide +kernel
theorem dX5_slow_91 : decode cX5_slow 91 = .ok (.ireturn, 1) := by decide +kernel
set_option maxRecDepth 20000 in
theorem ggX5_count_X5_refuses : GoodIn wsX5_count wsX5_refuses := goodIn_r _ [12, 13, 61, 62, 63, 64, 65, 66, 67, 68, 69, 70, 71, 72, 73, 74, 75, 76, 77, 78] (by decide +kernel) (by decide +kernel)
set_option maxRecDepth 20000 in
theorem gX5_count_X5_refuses : GoodIn wsX5_count (wsV RX5 58 RX5 yX5_refuses wsX5_refuses) := goodIn_app (goodIn_of _ (by decide +kernel)) ggX5_count_X5_refuses
set_option maxRecDepth 20000 in
theorem ggX5_count_X5_testOf : GoodIn wsX5_count wsX5_testOf := goodIn_r _ [17, 18, 19, 20, 11, 21, 5, 22, 23, 24, 25, 26, 27, 28, 29, 30, 31, 6, 32, 33, 34, 35, 36, 37, 4, 38, 39, 40, 41, 42, 43, 44, 45, 46, 47, 48, 49, 50, 51, 52, 53, 54, 55, 56, 57, 58, 59, 60, 61, 62, 63, 64, 65, 66, 67, 68, 69, 70, 71, 72, 73, 74, 75, 76, 77, 78] (by decide +kernel) (by decide +kernel)
set_option maxRecDepth 20000 in
theorem gX5_count_X5_testOf : GoodIn wsX5_count (wsV RX5 150 RX5 yX5_testOf wsX5_testOf) := goodIn_app (goodIn_of _ (by decide +kernel)) ggX5_count_X5_testOf
theorem dX5_count_0 : decode cX5_count 0 = .ok (.aload_n 0, 1) := by decide +kernel
theorem dX5_count_1 : decode cX5_count 1 = .ok (.iload_n 1, 1) := by decide +kernel
theorem dX5_count_2 : decode cX5_count 2 = .ok (.ifCond .lt 8, 3) := by decide +kernel
theorem dX5_count_5 : decode cX5_count 5 = .ok (.iload_n 1, 1) := by decide +kernel
theorem dX5_count_6 : decode cX5_count 6 = .ok (.iconst 5, 1) := by decide +kernel
theorem dX5_count_7 : decode cX5_count 7 = .ok (.if_icmp .le 7, 3) := by decide +kernel
theorem dX5_count_10 : decode cX5_count 10 = .ok (.iconst 1, 1) := by decide +kernel
theorem dX5_count_11 : decode cX5_count 11 = .ok (.goto 4, 3) := by decide +kernel
theorem dX5_count_14 : decode cX5_count 14 = .ok (.iconst 0, 1) := by decide +kernel
theorem dX5_count_15 : decode cX5_count 15 = .ok (.invokevirtual 58, 3) := by decide +kernel
theorem dX5_count_18 : decode cX5_count 18 = .ok (.ifCond .eq 5, 3) := by decide +kernel
theorem dX5_count_21 : decode cX5_count 21 = .ok (.iconst 0, 1) := by decide +kernel
theorem dX5_count_22 : decode cX5_count 22 = .ok (.ireturn, 1) := by decide +kernel
theorem dX5_count_23 : decode cX5_count 23 = .ok (.iconst 0, 1) := by decide +kernel
theorem dX5_count_24 : decode cX5_count 24 = .ok (.istore_n 2, 1) := by decide +kernel
theorem dX5_count_25 : decode cX5_count 25 = .ok (.iconst 0, 1) := by decide +kernel
theorem dX5_count_26 : decode cX5_count 26 = .ok (.istore_n 3, 1) := by decide +kernel
theorem dX5_count_27 : decode cX5_count 27 = .ok (.iload_n 3, 1) := by decide +kernel
theorem dX5_count_28 : decode cX5_count 28 = .ok (.aload_n 0, 1) := by decide +kernel
theorem dX5_count_29 : decode cX5_count 29 = .ok (.getfield 94, 3) := by decide +kernel
theorem dX5_count_32 : decode cX5_count 32 = .ok (.if_icmp .ge 62, 3) := by decide +kernel
theorem dX5_count_35 : decode cX5_count 35 = .ok (.iload_n 1, 1) := by decide +kernel
theorem dX5_count_36 : decode cX5_count 36 = .ok (.iconst 3, 1) := by decide +kernel
theorem dX5_count_37 : decode cX5_count 37 = .ok (.if_icmp .ne 12, 3) := by decide +kernel
theorem dX5_count_40 : decode cX5_count 40 = .ok (.aload_n 0, 1) := by decide +kernel
theorem dX5_count_41 : decode cX5_count 41 = .ok (.getfield 34, 3) := by decide +kernel
theorem dX5_count_44 : decode cX5_count 44 = .ok (.iload_n 3, 1) := by decide +kernel
theorem dX5_count_45 : decode cX5_count 45 = .ok (.baload, 1) := by decide +kernel
theorem dX5_count_46 : decode cX5_count 46 = .ok (.goto 27, 3) := by decide +kernel
theorem dX5_count_49 : decode cX5_count 49 = .ok (.iload_n 1, 1) := by decide +kernel
theorem dX5_count_50 : decode cX5_count 50 = .ok (.iconst 5, 1) := by decide +kernel
theorem dX5_count_51 : decode cX5_count 51 = .ok (.if_icmp .ne 21, 3) := by decide +kernel
theorem dX5_count_54 : decode cX5_count 54 = .ok (.aload_n 0, 1) := by decide +kernel
theorem dX5_count_55 : decode cX5_count 55 = .ok (.aload_n 0, 1) := by decide +kernel
theorem dX5_count_56 : decode cX5_count 56 = .ok (.getfield 28, 3) := by decide +kernel
theorem dX5_count_59 : decode cX5_count 59 = .ok (.iload_n 3, 1) := by decide +kernel
theorem dX5_count_60 : decode cX5_count 60 = .ok (.iaload, 1) := by decide +kernel
theorem dX5_count_61 : decode cX5_count 61 = .ok (.invokevirtual 150, 3) := by decide +kernel
theorem dX5_count_64 : decode cX5_count 64 = .ok (.iconst (-1), 1) := by decide +kernel
theorem dX5_count_65 : decode cX5_count 65 = .ok (.if_icmp .ne 7, 3) := by decide +kernel
theorem dX5_count_68 : decode cX5_count 68 = .ok (.iconst 1, 1) := by decide +kernel
theorem dX5_count_69 : decode cX5_count 69 = .ok (.goto 4, 3) := by decide +kernel
theorem dX5_count_72 : decode cX5_count 72 = .ok (.iconst 0, 1) := by decide +kernel
theorem dX5_count_73 : decode cX5_count 73 = .ok (.istore 4, 2) := by decide +kernel
theorem dX5_count_75 : decode cX5_count 75 = .ok (.iload_n 2, 1) := by decide +kernel
theorem dX5_count_76 : decode cX5_count 76 = .ok (.iload 4, 2) := by decide +kernel
theorem dX5_count_78 : decode cX5_count 78 = .ok (.ifCond .eq 7, 3) := by decide +kernel
theorem dX5_count_81 : decode cX5_count 81 = .ok (.iconst 1, 1) := by decide +kernel
theorem dX5_count_82 : decode cX5_count 82 = .ok (.goto 4, 3) := by decide +kernel
theorem dX5_count_85 : decode cX5_count 85 = .ok (.iconst 0, 1) := by decide +kernel
theorem dX5_count_86 : decode cX5_count 86 = .ok (.iadd, 1) := by decide +kernel
theorem dX5_count_87 : decode cX5_count 87 = .ok (.istore_n 2, 1) := by decide +kernel
theorem dX5_count_88 : decode cX5_count 88 = .ok (.iinc 3 1, 3) := by decide +kernel
theorem dX5_count_91 : decode cX5_count 91 = .ok (.goto (-64), 3) := by decide +kernel
theorem dX5_count_94 : decode cX5_count 94 = .ok (.iload_n 1, 1) := by decide +kernel
theorem dX5_count_95 : decode cX5_count 95 = .ok (.ifCond .ne 10, 3) := by decide +kernel
theorem dX5_count_98 : decode cX5_count 98 = .ok (.aload_n 0, 1) := by decide +kernel
theorem dX5_count_99 : decode cX5_count 99 = .ok (.getfield 52, 3) := by decide +kernel
theorem dX5_count_102 : decode cX5_count 102 = .ok (.goto 40, 3) := by decide +kernel
theorem dX5_count_105 : decode cX5_count 105 = .ok (.iload_n 1, 1) := by decide +kernel
theorem dX5_count_106 : decode cX5_count 106 = .ok (.iconst 1, 1) := by decide +kernel
theorem dX5_count_107 : decode cX5_count 107 = .ok (.if_icmp .ne 10, 3) := by decide +kernel
theorem dX5_count_110 : decode cX5_count 110 = .ok (.aload_n 0, 1) := by decide +kernel
theorem dX5_count_111 : decode cX5_count 111 = .ok (.getfield 55, 3) := by decide +kernel
theorem dX5_count_114 : decode cX5_count 114 = .ok (.goto 28, 3) := by decide +kernel
theorem dX5_count_117 : decode cX5_count 117 = .ok (.iload_n 1, 1) := by decide +kernel
theorem dX5_count_118 : decode cX5_count 118 = .ok (.iconst 2, 1) := by decide +kernel
theorem dX5_count_119 : decode cX5_count 119 = .ok (.if_icmp .ne 10, 3) := by decide +kernel
theorem dX5_count_122 : decode cX5_count 122 = .ok (.aload_n 0, 1) := by decide +kernel
theorem dX5_count_123 : decode cX5_count 123 = .ok (.getfield 68, 3) := by decide +kernel
theorem dX5_count_126 : decode cX5_count 126 = .ok (.goto 16, 3) := by decide +kernel
theorem dX5_count_129 : decode cX5_count 129 = .ok (.iload_n 1, 1) := by decide +kernel
theorem dX5_count_130 : decode cX5_count 130 = .ok (.iconst 4, 1) := by decide +kernel
theorem dX5_count_131 : decode cX5_count 131 = .ok (.if_icmp .ne 10, 3) := by decide +kernel
theorem dX5_count_134 : decode cX5_count 134 = .ok (.aload_n 0, 1) := by decide +kernel
theorem dX5_count_135 : decode cX5_count 135 = .ok (.getfield 100, 3) := by decide +kernel
theorem dX5_count_138 : decode cX5_count 138 = .ok (.goto 4, 3) := by decide +kernel
theorem dX5_count_141 : decode cX5_count 141 = .ok (.iload_n 2, 1) := by decide +kernel
theorem dX5_count_142 : decode cX5_count 142 = .ok (.ireturn, 1) := by decide +kernel
set_option maxRecDepth 20000 in
theorem ggX5_clear_X5_build : GoodIn wsX5_clear wsX5_build := goodIn_r _ [9, 10, 11, 2, 12, 13, 14, 15, 16, 17, 18, 8, 19, 20, 21, 22, 23, 24, 25, 26, 27, 28, 29, 30, 31, 32, 33, 34, 35, 4, 36, 37, 38, 39, 40, 41, 42, 43, 44, 45, 46, 47, 48, 49, 50, 51, 52, 53, 54, 55, 56, 57, 58, 59, 60, 61, 62, 63, 64] (by decide +kernel) (by decide +kernel)
set_option maxRecDepth 20000 in
theorem gX5_clear_X5_build : GoodIn wsX5_clear (wsV RX5 62 RX5 yX5_build wsX5_build) := goodIn_app (goodIn_of _ (by decide +kernel)) ggX5_clear_X5_build
theorem dX5_clear_0 : decode cX5_clear 0 = .ok (.aload_n 0, 1) := by decide +kernel
theorem dX5_clear_1 : decode cX5_clear 1 = .ok (.iconst 0, 1) := by decide +kernel
theorem dX5_clear_2 : decode cX5_clear 2 = .ok (.putfield 48, 3) := by decide +kernel
theorem dX5_clear_5 : decode cX5_clear 5 = .ok (.aload_n 0, 1) := by decide +kernel
theorem dX5_clear_6 : decode cX5_clear 6 = .ok (.iconst 0, 1) := by decide +kernel
theorem dX5_clear_7 : decode cX5_clear 7 = .ok (.putfield 52, 3) := by decide +kernel
theorem dX5_clear_10 : decode cX5_clear 10 = .ok (.aload_n 0, 1) := by decide +kernel
theorem dX5_clear_11 : decode cX5_clear 11 = .ok (.iconst 0, 1) := by decide +kernel
theorem dX5_clear_12 : decode cX5_clear 12 = .ok (.putfield 55, 3) := by decide +kernel
theorem dX5_clear_15 : decode cX5_clear 15 = .ok (.aload_n 0, 1) := by decide +kernel
theorem dX5_clear_16 : decode cX5_clear 16 = .ok (.iconst 0, 1) := by decide +kernel
theorem dX5_clear_17 : decode cX5_clear 17 = .ok (.putfield 68, 3) := by decide +kernel
theorem dX5_clear_20 : decode cX5_clear 20 = .ok (.aload_n 0, 1) := by decide +kernel
theorem dX5_clear_21 : decode cX5_clear 21 = .ok (.invokevirtual 62, 3) := by decide +kernel
theorem dX5_clear_24 : decode cX5_clear 24 = .ok (.return_, 1) := by decide +kernel
theorem dJ13_bitCount_95d88_0 : decode cJ13_bitCount_95d88 0 = .ok (.lload_n 0, 1) := by decide +kernel
theorem dJ13_bitCount_95d88_1 : decode cJ13_bitCount_95d88 1 = .ok (.lload_n 0, 1) := by decide +kernel
theorem dJ13_bitCount_95d88_2 : decode cJ13_bitCount_95d88 2 = .ok (.iconst 1, 1) := by decide +kernel
theorem dJ13_bitCount_95d88_3 : decode cJ13_bitCount_95d88 3 = .ok (.lushr, 1) := by decide +kernel
theorem dJ13_bitCount_95d88_4 : decode cJ13_bitCount_95d88 4 = .ok (.ldc2_w 314, 3) := by decide +kernel
theorem dJ13_bitCount_95d88_7 : decode cJ13_bitCount_95d88 7 = .ok (.land, 1) := by decide +kernel
theorem dJ13_bitCount_95d88_8 : decode cJ13_bitCount_95d88 8 = .ok (.lsub, 1) := by decide +kernel
theorem dJ13_bitCount_95d88_9 : decode cJ13_bitCount_95d88 9 = .ok (.lstore_n 0, 1) := by decide +kernel
theorem dJ13_bitCount_95d88_10 : decode cJ13_bitCount_95d88 10 = .ok (.lload_n 0, 1) := by decide +kernel
theorem dJ13_bitCount_95d88_11 : decode cJ13_bitCount_95d88 11 = .ok (.ldc2_w 316, 3) := by decide +kernel
theorem dJ13_bitCount_95d88_14 : decode cJ13_bitCount_95d88 14 = .ok (.land, 1) := by decide +kernel
theorem dJ13_bitCount_95d88_15 : decode cJ13_bitCount_95d88 15 = .ok (.lload_n 0, 1) := by decide +kernel
theorem dJ13_bitCount_95d88_16 : decode cJ13_bitCount_95d88 16 = .ok (.iconst 2, 1) := by decide +kernel
theorem dJ13_bitCount_95d88_17 : decode cJ13_bitCount_95d88 17 = .ok (.lushr, 1) := by decide +kernel
theorem dJ13_bitCount_95d88_18 : decode cJ13_bitCount_95d88 18 = .ok (.ldc2_w 316, 3) := by decide +kernel
theorem dJ13_bitCount_95d88_21 : decode cJ13_bitCount_95d88 21 = .ok (.land, 1) := by decide +kernel
theorem dJ13_bitCount_95d88_22 : decode cJ13_bitCount_95d88 22 = .ok (.ladd, 1) := by decide +kernel
theorem dJ13_bitCount_95d88_23 : decode cJ13_bitCount_95d88 23 = .ok (.lstore_n 0, 1) := by decide +kernel
theorem dJ13_bitCount_95d88_24 : decode cJ13_bitCount_95d88 24 = .ok (.lload_n 0, 1) := by decide +kernel
theorem dJ13_bitCount_95d88_25 : decode cJ13_bitCount_95d88 25 = .ok (.lload_n 0, 1) := by decide +kernel
theorem dJ13_bitCount_95d88_26 : decode cJ13_bitCount_95d88 26 = .ok (.iconst 4, 1) := by decide +kernel
theorem dJ13_bitCount_95d88_27 : decode cJ13_bitCount_95d88 27 = .ok (.lushr, 1) := by decide +kernel
theorem dJ13_bitCount_95d88_28 : decode cJ13_bitCount_95d88 28 = .ok (.ladd, 1) := by decide +kernel
theorem dJ13_bitCount_95d88_29 : decode cJ13_bitCount_95d88 29 = .ok (.ldc2_w 318, 3) := by decide +kernel
theorem dJ13_bitCount_95d88_32 : decode cJ13_bitCount_95d88 32 = .ok (.land, 1) := by decide +kernel
theorem dJ13_bitCount_95d88_33 : decode cJ13_bitCount_95d88 33 = .ok (.lstore_n 0, 1) := by decide +kernel
theorem dJ13_bitCount_95d88_34 : decode cJ13_bitCount_95d88 34 = .ok (.lload_n 0, 1) := by decide +kernel
theorem dJ13_bitCount_95d88_35 : decode cJ13_bitCount_95d88 35 = .ok (.lload_n 0, 1) := by decide +kernel
theorem dJ13_bitCount_95d88_36 : decode cJ13_bitCount_95d88 36 = .ok (.bipush 8, 2) := by decide +kernel
theorem dJ13_bitCount_95d88_38 : decode cJ13_bitCount_95d88 38 = .ok (.lushr, 1) := by decide +kernel
theorem dJ13_bitCount_95d88_39 : decode cJ13_bitCount_95d88 39 = .ok (.ladd, 1) := by decide +kernel
theorem dJ13_bitCount_95d88_40 : decode cJ13_bitCount_95d88 40 = .ok (.lstore_n 0, 1) := by decide +kernel
theorem dJ13_bitCount_95d88_41 : decode cJ13_bitCount_95d88 41 = .ok (.lload_n 0, 1) := by decide +kernel
theorem dJ13_bitCount_95d88_42 : decode cJ13_bitCount_95d88 42 = .ok (.lload_n 0, 1) := by decide +kernel
theorem dJ13_bitCount_95d88_43 : decode cJ13_bitCount_95d88 43 = .ok (.bipush 16, 2) := by decide +kernel
theorem dJ13_bitCount_95d88_45 : decode cJ13_bitCount_95d88 45 = .ok (.lushr, 1) := by decide +kernel
theorem dJ13_bitCount_95d88_46 : decode cJ13_bitCount_95d88 46 = .ok (.ladd, 1) := by decide +kernel
theorem dJ13_bitCount_95d88_47 : decode cJ13_bitCount_95d88 47 = .ok (.lstore_n 0, 1) := by decide +kernel
theorem dJ13_bitCount_95d88_48 : decode cJ13_bitCount_95d88 48 = .ok (.lload_n 0, 1) := by decide +kernel
theorem dJ13_bitCount_95d88_49 : decode cJ13_bitCount_95d88 49 = .ok (.lload_n 0, 1) := by decide +kernel
theorem dJ13_bitCount_95d88_50 : decode cJ13_bitCount_95d88 50 = .ok (.bipush 32, 2) := by decide +kernel
theorem dJ13_bitCount_95d88_52 : decode cJ13_bitCount_95d88 52 = .ok (.lushr, 1) := by decide +kernel
theorem dJ13_bitCount_95d88_53 : decode cJ13_bitCount_95d88 53 = .ok (.ladd, 1) := by decide +kernel
theorem dJ13_bitCount_95d88_54 : decode cJ13_bitCount_95d88 54 = .ok (.lstore_n 0, 1) := by decide +kernel
theorem dJ13_bitCount_95d88_55 : decode cJ13_bitCount_95d88 55 = .ok (.lload_n 0, 1) := by decide +kernel
theorem dJ13_bitCount_95d88_56 : decode cJ13_bitCount_95d88 56 = .ok (.l2i, 1) := by decide +kernel
theorem dJ13_bitCount_95d88_57 : decode cJ13_bitCount_95d88 57 = .ok (.bipush 127, 2) := by decide +kernel
theorem dJ13_bitCount_95d88_59 : decode cJ13_bitCount_95d88 59 = .ok (.iand, 1) := by decide +kernel
theorem dJ13_bitCount_95d88_60 : decode cJ13_bitCount_95d88 60 = .ok (.ireturn, 1) := by decide +kernel
theorem dJ9_max_7cf53_0 : decode cJ9_max_7cf53 0 = .ok (.iload_n 0, 1) := by decide +kernel
theorem dJ9_max_7cf53_1 : decode cJ9_max_7cf53 1 = .ok (.iload_n 1, 1) := by decide +kernel
theorem dJ9_max_7cf53_2 : decode cJ9_max_7cf53 2 = .ok (.if_icmp .lt 7, 3) := by decide +kernel
theorem dJ9_max_7cf53_5 : decode cJ9_max_7cf53 5 = .ok (.iload_n 0, 1) := by decide +kernel
theorem dJ9_max_7cf53_6 : decode cJ9_max_7cf53 6 = .ok (.goto 4, 3) := by decide +kernel
theorem dJ9_max_7cf53_9 : decode cJ9_max_7cf53 9 = .ok (.iload_n 1, 1) := by decide +kernel
theorem dJ9_max_7cf53_10 : decode cJ9_max_7cf53 10 = .ok (.ireturn, 1) := by decide +kernel
theorem dJ9_min_7cf53_0 : decode cJ9_min_7cf53 0 = .ok (.iload_n 0, 1) := by decide +kernel
theorem dJ9_min_7cf53_1 : decode cJ9_min_7cf53 1 = .ok (.iload_n 1, 1) := by decide +kernel
theorem dJ9_min_7cf53_2 : decode cJ9_min_7cf53 2 = .ok (.if_icmp .gt 7, 3) := by decide +kernel
theorem dJ9_min_7cf53_5 : decode cJ9_min_7cf53 5 = .ok (.iload_n 0, 1) := by decide +kernel
theorem dJ9_min_7cf53_6 : decode cJ9_min_7cf53 6 = .ok (.goto 4, 3) := by decide +kernel
theorem dJ9_min_7cf53_9 : decode cJ9_min_7cf53 9 = .ok (.iload_n 1, 1) := by decide +kernel
theorem dJ9_min_7cf53_10 : decode cJ9_min_7cf53 10 = .ok (.ireturn, 1) := by decide +kernel
set_option maxRecDepth 20000 in
theorem ggL_input_X4_input : GoodIn wsL_input wsX4_input := goodIn_ca (goodIn_r _ [6, 7, 8, 9, 10, 11, 12, 13, 14, 15, 16, 17, 18, 19, 20, 21, 22, 23, 24, 5, 25, 26, 27, 28, 29, 30, 31, 32, 33, 34, 35, 36, 37, 38, 39, 40, 41, 42, 43, 44, 45, 46, 47, 48, 49, 50, 51, 52, 53, 54, 55, 56, 57, 58, 59, 60, 61, 62, 63, 64, 65, 66, 67, 68] (by decide +kernel) (by decide +kernel)) (goodIn_sub (fun _ h => List.mem_cons_of_mem _ (List.mem_append_right _ h)) (by decide +kernel))
set_option maxRecDepth 20000 in
theorem gL_input_X4_input : GoodIn wsL_input (wsV RL 7 RX4 yX4_input wsX4_input) := goodIn_app (goodIn_of _ (by decide +kernel)) ggL_input_X4_input
theorem dL_input_0 : decode cL_input 0 = .ok (.aload_n 1, 1) := by decide +kernel
theorem dL_input_1 : decode cL_input 1 = .ok (.iconst 0, 1) := by decide +kernel
theorem dL_input_2 : decode cL_input 2 = .ok (.aload_n 0, 1) := by decide +kernel
theorem dL_input_3 : decode cL_input 3 = .ok (.invokevirtual 7, 3) := by decide +kernel
theorem dL_input_6 : decode cL_input 6 = .ok (.i2l, 1) := by decide +kernel
theorem dL_input_7 : decode cL_input 7 = .ok (.lastore, 1) := by decide +kernel
theorem dL_input_8 : decode cL_input 8 = .ok (.goto 6, 3) := by decide +kernel
theorem dL_input_11 : decode cL_input 11 = .ok (.astore_n 2, 1) := by decide +kernel
theorem dL_input_12 : decode cL_input 12 = .ok (.iconst 1, 1) := by decide +kernel
theorem dL_input_13 : decode cL_input 13 = .ok (.ireturn, 1) := by decide +kernel
theorem dL_input_14 : decode cL_input 14 = .ok (.iconst 0, 1) := by decide +kernel
theorem dL_input_15 : decode cL_input 15 = .ok (.ireturn, 1) := by decide +kernel
set_option maxRecDepth 20000 in
theorem ggL_gate_X4_gate : GoodIn wsL_gate wsX4_gate := goodIn_ca (goodIn_ca (goodIn_ca (goodIn_r _ [8, 9, 10, 11, 12, 13, 14, 15, 16, 17, 18, 19, 20, 21, 22, 23, 24, 7, 25, 26, 27, 28, 29, 30, 31, 32, 33, 34, 35, 36, 37, 38, 39, 40, 41, 42, 43, 44, 45, 46, 47, 48, 49, 50, 51, 52, 53, 54, 55, 56, 57, 58, 59, 60, 61, 62, 63, 64, 65, 66, 67, 68, 69, 70, 71, 72, 73, 74, 75, 76, 77, 78, 79, 80, 81, 82] (by decide +kernel) (by decide +kernel)) (goodIn_sub (fun _ h => List.mem_cons_of_mem _ (List.mem_append_left _ (List.mem_append_left _ (List.mem_append_right _ h)))) (by decide +kernel))) (goodIn_sub (fun _ h => List.mem_cons_of_mem _ (List.mem_append_left _ (List.mem_append_right _ h))) (by decide +kernel))) (goodIn_sub (fun _ h => List.mem_cons_of_mem _ (List.mem_append_right _ h)) (by decide +kernel))
set_option maxRecDepth 20000 in
theorem gL_gate_X4_gate : GoodIn wsL_gate (wsV RL 15 RX4 yX4_gate wsX4_gate) := goodIn_app (goodIn_of _ (by decide +kernel)) ggL_gate_X4_gate
theorem dL_gate_0 : decode cL_gate 0 = .ok (.aload 4, 2) := by decide +kernel
theorem dL_gate_2 : decode cL_gate 2 = .ok (.iconst 0, 1) := by decide +kernel
theorem dL_gate_3 : decode cL_gate 3 = .ok (.aload_n 0, 1) := by decide +kernel
theorem dL_gate_4 : decode cL_gate 4 = .ok (.iload_n 1, 1) := by decide +kernel
theorem dL_gate_5 : decode cL_gate 5 = .ok (.iload_n 2, 1) := by decide +kernel
theorem dL_gate_6 : decode cL_gate 6 = .ok (.iload_n 3, 1) := by decide +kernel
theorem dL_gate_7 : decode cL_gate 7 = .ok (.invokevirtual 15, 3) := by decide +kernel
theorem dL_gate_10 : decode cL_gate 10 = .ok (.i2l, 1) := by decide +kernel
theorem dL_gate_11 : decode cL_gate 11 = .ok (.lastore, 1) := by decide +kernel
theorem dL_gate_12 : decode cL_gate 12 = .ok (.goto 15, 3) := by decide +kernel
theorem dL_gate_15 : decode cL_gate 15 = .ok (.astore 5, 2) := by decide +kernel
theorem dL_gate_17 : decode cL_gate 17 = .ok (.iconst 1, 1) := by decide +kernel
theorem dL_gate_18 : decode cL_gate 18 = .ok (.ireturn, 1) := by decide +kernel
theorem dL_gate_19 : decode cL_gate 19 = .ok (.astore 5, 2) := by decide +kernel
theorem dL_gate_21 : decode cL_gate 21 = .ok (.iconst 2, 1) := by decide +kernel
theorem dL_gate_22 : decode cL_gate 22 = .ok (.ireturn, 1) := by decide +kernel
theorem dL_gate_23 : decode cL_gate 23 = .ok (.astore 5, 2) := by decide +kernel
theorem dL_gate_25 : decode cL_gate 25 = .ok (.iconst 3, 1) := by decide +kernel
theorem dL_gate_26 : decode cL_gate 26 = .ok (.ireturn, 1) := by decide +kernel
theorem dL_gate_27 : decode cL_gate 27 = .ok (.iconst 0, 1) := by decide +kernel
theorem dL_gate_28 : decode cL_gate 28 = .ok (.ireturn, 1) := by decide +kernel
set_option maxRecDepth 20000 in
theorem ggL_output_X4_output : GoodIn wsL_output wsX4_output := goodIn_ca (goodIn_ca (goodIn_r _ [7, 8, 9, 10, 11, 12, 13, 14, 6, 15, 16, 17, 18, 19, 20, 21, 22, 23, 24, 25, 26, 27, 28, 29, 30, 31, 32, 33, 34, 35, 36, 37, 38, 39, 40, 41, 42, 43, 44, 45, 46, 47, 48, 49, 50, 51, 52, 53, 54, 55, 56, 57, 58, 59, 60, 61, 62, 63, 64, 65, 66, 67, 68, 69, 70, 71] (by decide +kernel) (by decide +kernel)) (goodIn_sub (fun _ h => List.mem_cons_of_mem _ (List.mem_append_left _ (List.mem_append_right _ h))) (by decide +kernel))) (goodIn_sub (fun _ h => List.mem_cons_of_mem _ (List.mem_append_right _ h)) (by decide +kernel))
set_option maxRecDepth 20000 in
theorem gL_output_X4_output : GoodIn wsL_output (wsV RL 23 RX4 yX4_output wsX4_output) := goodIn_app (goodIn_of _ (by decide +kernel)) ggL_output_X4_output
theorem dL_output_0 : decode cL_output 0 = .ok (.aload_n 2, 1) := by decide +kernel
theorem dL_output_1 : decode cL_output 1 = .ok (.iconst 0, 1) := by decide +kernel
theorem dL_output_2 : decode cL_output 2 = .ok (.aload_n 0, 1) := by decide +kernel
theorem dL_output_3 : decode cL_output 3 = .ok (.iload_n 1, 1) := by decide +kernel
theorem dL_output_4 : decode cL_output 4 = .ok (.invokevirtual 23, 3) := by decide +kernel
theorem dL_output_7 : decode cL_output 7 = .ok (.i2l, 1) := by decide +kernel
theorem dL_output_8 : decode cL_output 8 = .ok (.lastore, 1) := by decide +kernel
theorem dL_output_9 : decode cL_output 9 = .ok (.goto 9, 3) := by decide +kernel
theorem dL_output_12 : decode cL_output 12 = .ok (.astore_n 3, 1) := by decide +kernel
theorem dL_output_13 : decode cL_output 13 = .ok (.iconst 1, 1) := by decide +kernel
theorem dL_output_14 : decode cL_output 14 = .ok (.ireturn, 1) := by decide +kernel
theorem dL_output_15 : decode cL_output 15 = .ok (.astore_n 3, 1) := by decide +kernel
theorem dL_output_16 : decode cL_output 16 = .ok (.iconst 2, 1) := by decide +kernel
theorem dL_output_17 : decode cL_output 17 = .ok (.ireturn, 1) := by decide +kernel
theorem dL_output_18 : decode cL_output 18 = .ok (.iconst 0, 1) := by decide +kernel
theorem dL_output_19 : decode cL_output 19 = .ok (.ireturn, 1) := by decide +kernel
set_option maxRecDepth 20000 in
theorem ggL_value_X4_value : GoodIn wsL_value wsX4_value := goodIn_ca (goodIn_r _ [6, 7, 8, 9, 10, 5, 11, 12, 13, 14, 15, 16, 17, 18, 19, 20, 21, 22, 23, 24, 25, 26, 27, 28, 29, 30, 31, 32, 33, 34, 35, 36, 37, 38, 39, 40, 41, 42, 43, 44, 45] (by decide +kernel) (by decide +kernel)) (goodIn_sub (fun _ h => List.mem_cons_of_mem _ (List.mem_append_right _ h)) (by decide +kernel))
set_option maxRecDepth 20000 in
theorem gL_value_X4_value : GoodIn wsL_value (wsV RL 27 RX4 yX4_value wsX4_value) := goodIn_app (goodIn_of _ (by decide +kernel)) ggL_value_X4_value
theorem dL_value_0 : decode cL_value 0 = .ok (.aload_n 3, 1) := by decide +kernel
theorem dL_value_1 : decode cL_value 1 = .ok (.iconst 0, 1) := by decide +kernel
theorem dL_value_2 : decode cL_value 2 = .ok (.aload_n 0, 1) := by decide +kernel
theorem dL_value_3 : decode cL_value 3 = .ok (.iload_n 1, 1) := by decide +kernel
theorem dL_value_4 : decode cL_value 4 = .ok (.iload_n 2, 1) := by decide +kernel
theorem dL_value_5 : decode cL_value 5 = .ok (.invokevirtual 27, 3) := by decide +kernel
theorem dL_value_8 : decode cL_value 8 = .ok (.i2l, 1) := by decide +kernel
theorem dL_value_9 : decode cL_value 9 = .ok (.lastore, 1) := by decide +kernel
theorem dL_value_10 : decode cL_value 10 = .ok (.goto 7, 3) := by decide +kernel
theorem dL_value_13 : decode cL_value 13 = .ok (.astore 4, 2) := by decide +kernel
theorem dL_value_15 : decode cL_value 15 = .ok (.iconst 1, 1) := by decide +kernel
theorem dL_value_16 : decode cL_value 16 = .ok (.ireturn, 1) := by decide +kernel
theorem dL_value_17 : decode cL_value 17 = .ok (.iconst 0, 1) := by decide +kernel
theorem dL_value_18 : decode cL_value 18 = .ok (.ireturn, 1) := by decide +kernel
set_option maxRecDepth 20000 in
theorem ggL_fault_X4_fault : GoodIn wsL_fault wsX4_fault := goodIn_ca (goodIn_r _ [6, 7, 8, 9, 10, 11, 12, 13, 14, 5, 15, 16, 17, 18, 19, 20, 21, 22, 23, 24, 25, 26, 27, 28, 29, 30, 31, 32, 33, 34, 35, 36, 37, 38, 39, 40, 41, 42, 43, 44, 45, 46, 47, 48, 49, 50, 51, 52, 53, 54, 55, 56, 57, 58, 59, 60, 61, 62, 63, 64, 65, 66, 67, 68, 69, 70, 71, 72, 73, 74, 75, 76, 77, 78, 79, 80, 81, 82, 83, 84, 85, 86, 87, 88, 89, 90, 91, 92, 93, 94, 95, 96, 97, 98, 99, 100, 101, 102, 103, 104, 105, 106, 107, 108, 109, 110, 111, 112] (by decide +kernel) (by decide +kernel)) (goodIn_sub (fun _ h => List.mem_cons_of_mem _ (List.mem_append_right _ h)) (by decide +kernel))
set_option maxRecDepth 20000 in
theorem gL_fault_X4_fault : GoodIn wsL_fault (wsV RL 31 RX4 yX4_fault wsX4_fault) := goodIn_app (goodIn_of _ (by decide +kernel)) ggL_fault_X4_fault
theorem dL_fault_0 : decode cL_fault 0 = .ok (.aload_n 3, 1) := by decide +kernel
theorem dL_fault_1 : decode cL_fault 1 = .ok (.iconst 0, 1) := by decide +kernel
theorem dL_fault_2 : decode cL_fault 2 = .ok (.aload_n 0, 1) := by decide +kernel
theorem dL_fault_3 : decode cL_fault 3 = .ok (.iload_n 1, 1) := by decide +kernel
theorem dL_fault_4 : decode cL_fault 4 = .ok (.iload_n 2, 1) := by decide +kernel
theorem dL_fault_5 : decode cL_fault 5 = .ok (.invokevirtual 31, 3) := by decide +kernel
theorem dL_fault_8 : decode cL_fault 8 = .ok (.i2l, 1) := by decide +kernel
theorem dL_fault_9 : decode cL_fault 9 = .ok (.lastore, 1) := by decide +kernel
theorem dL_fault_10 : decode cL_fault 10 = .ok (.goto 7, 3) := by decide +kernel
theorem dL_fault_13 : decode cL_fault 13 = .ok (.astore 4, 2) := by decide +kernel
theorem dL_fault_15 : decode cL_fault 15 = .ok (.iconst 1, 1) := by decide +kernel
theorem dL_fault_16 : decode cL_fault 16 = .ok (.ireturn, 1) := by decide +kernel
theorem dL_fault_17 : decode cL_fault 17 = .ok (.iconst 0, 1) := by decide +kernel
theorem dL_fault_18 : decode cL_fault 18 = .ok (.ireturn, 1) := by decide +kernel
set_option maxRecDepth 20000 in
theorem ggL_classOf_X4_classOf : GoodIn wsL_classOf wsX4_classOf := goodIn_ca (goodIn_r _ [6, 7, 8, 9, 10, 11, 12, 13, 14, 5, 15, 16, 17, 18, 19, 20, 21, 22, 23, 24, 25, 26, 27, 28, 29, 30, 31, 32, 33, 34, 35, 36, 37, 38, 39, 40, 41, 42, 43, 44, 45, 46, 47, 48, 49, 50, 51, 52, 53, 54, 55, 56, 57, 58, 59, 60, 61, 62, 63, 64, 65, 66, 67, 68, 69, 70, 71, 72, 73, 74, 75, 76, 77, 78, 79, 80, 81, 82, 83, 84, 85, 86, 87, 88, 89, 90, 91, 92, 93, 94, 95, 96, 97, 98, 99, 100, 101, 102, 103, 104, 105, 106, 107, 108, 109, 110, 111] (by decide +kernel) (by decide +kernel)) (goodIn_sub (fun _ h => List.mem_cons_of_mem _ (List.mem_append_right _ h)) (by decide +kernel))
set_option maxRecDepth 20000 in
theorem gL_classOf_X4_classOf : GoodIn wsL_classOf (wsV RL 34 RX4 yX4_classOf wsX4_classOf) := goodIn_app (goodIn_of _ (by decide +kernel)) ggL_classOf_X4_classOf
theorem dL_classOf_0 : decode cL_classOf 0 = .ok (.aload 4, 2) := by decide +kernel
theorem dL_classOf_2 : decode cL_classOf 2 = .ok (.iconst 0, 1) := by decide +kernel
theorem dL_classOf_3 : decode cL_classOf 3 = .ok (.aload_n 0, 1) := by decide +kernel
theorem dL_classOf_4 : decode cL_classOf 4 = .ok (.iload_n 1, 1) := by decide +kernel
theorem dL_classOf_5 : decode cL_classOf 5 = .ok (.iload_n 2, 1) := by decide +kernel
theorem dL_classOf_6 : decode cL_classOf 6 = .ok (.iload_n 3, 1) := by decide +kernel
theorem dL_classOf_7 : decode cL_classOf 7 = .ok (.invokevirtual 34, 3) := by decide +kernel
theorem dL_classOf_10 : decode cL_classOf 10 = .ok (.i2l, 1) := by decide +kernel
theorem dL_classOf_11 : decode cL_classOf 11 = .ok (.lastore, 1) := by decide +kernel
theorem dL_classOf_12 : decode cL_classOf 12 = .ok (.goto 7, 3) := by decide +kernel
theorem dL_classOf_15 : decode cL_classOf 15 = .ok (.astore 5, 2) := by decide +kernel
theorem dL_classOf_17 : decode cL_classOf 17 = .ok (.iconst 1, 1) := by decide +kernel
theorem dL_classOf_18 : decode cL_classOf 18 = .ok (.ireturn, 1) := by decide +kernel
theorem dL_classOf_19 : decode cL_classOf 19 = .ok (.iconst 0, 1) := by decide +kernel
theorem dL_classOf_20 : decode cL_classOf 20 = .ok (.ireturn, 1) := by decide +kernel
set_option maxRecDepth 20000 in
theorem ggL_test_X4_test : GoodIn wsL_test wsX4_test := goodIn_ca (goodIn_r _ [6, 7, 8, 9, 10, 11, 12, 5, 13, 14, 15, 16, 17, 18, 19, 20, 21, 22, 23, 24, 25, 26, 27, 28, 29, 30, 31, 32, 33, 34, 35, 36, 37, 38, 39, 40, 41, 42, 43, 44, 45, 46, 47, 48, 49, 50, 51, 52, 53, 54, 55, 56, 57, 58, 59, 60, 61, 62, 63, 64, 65, 66, 67, 68, 69, 70, 71, 72, 73, 74, 75, 76, 77, 78, 79, 80, 81, 82, 83, 84, 85, 86, 87, 88, 89, 90, 91, 92, 93, 94, 95, 96, 97, 98, 99, 100, 101, 102, 103, 104, 105, 106, 107, 108, 109, 110, 111, 112, 113, 114, 115, 116, 117, 118, 119, 120, 121, 122, 123, 124, 125, 126, 127, 128, 129, 130, 131, 132, 133, 134, 135, 136, 137, 138, 139, 140, 141, 142, 143, 144, 145, 146, 147, 148, 149, 150, 151, 152, 153, 154, 155, 156, 157, 158, 159, 160, 161, 162, 163, 164, 165, 166, 167, 168, 169, 170, 171, 172, 173, 174, 175, 176, 177, 178] (by decide +kernel) (by decide +kernel)) (goodIn_sub (fun _ h => List.mem_cons_of_mem _ (List.mem_append_right _ h)) (by decide +kernel))
set_option maxRecDepth 20000 in
theorem gL_test_X4_test : GoodIn wsL_test (wsV RL 37 RX4 yX4_test wsX4_test) := goodIn_app (goodIn_of _ (by decide +kernel)) ggL_test_X4_test
theorem dL_test_0 : decode cL_test 0 = .ok (.aload_n 2, 1) := by decide +kernel
theorem dL_test_1 : decode cL_test 1 = .ok (.iconst 0, 1) := by decide +kernel
theorem dL_test_2 : decode cL_test 2 = .ok (.aload_n 0, 1) := by decide +kernel
theorem dL_test_3 : decode cL_test 3 = .ok (.iload_n 1, 1) := by decide +kernel
theorem dL_test_4 : decode cL_test 4 = .ok (.invokevirtual 37, 3) := by decide +kernel
theorem dL_test_7 : decode cL_test 7 = .ok (.i2l, 1) := by decide +kernel
theorem dL_test_8 : decode cL_test 8 = .ok (.lastore, 1) := by decide +kernel
theorem dL_test_9 : decode cL_test 9 = .ok (.goto 6, 3) := by decide +kernel
theorem dL_test_12 : decode cL_test 12 = .ok (.astore_n 3, 1) := by decide +kernel
theorem dL_test_13 : decode cL_test 13 = .ok (.iconst 1, 1) := by decide +kernel
theorem dL_test_14 : decode cL_test 14 = .ok (.ireturn, 1) := by decide +kernel
theorem dL_test_15 : decode cL_test 15 = .ok (.iconst 0, 1) := by decide +kernel
theorem dL_test_16 : decode cL_test 16 = .ok (.ireturn, 1) := by decide +kernel
set_option maxRecDepth 20000 in
theorem ggL_shows_X4_shows : GoodIn wsL_shows wsX4_shows := goodIn_ca (goodIn_r _ [6, 7, 8, 9, 10, 11, 12, 13, 5, 14, 15, 16, 17, 18, 19, 20, 21, 22, 23, 24, 25, 26, 27, 28, 29, 30, 31, 32, 33, 34, 35, 36, 37, 38, 39, 40, 41, 42, 43, 44, 45, 46, 47, 48, 49, 50, 51, 52, 53, 54, 55, 56, 57, 58, 59, 60, 61, 62, 63, 64, 65, 66, 67, 68, 69, 70, 71, 72, 73, 74, 75, 76, 77, 78, 79, 80, 81, 82, 83, 84, 85, 86, 87, 88, 89, 90, 91, 92, 93, 94, 95, 96, 97, 98, 99, 100, 101, 102, 103, 104, 105, 106, 107, 108, 109, 110, 111, 112, 113, 114, 115, 116, 117, 118, 119, 120, 121, 122, 123, 124, 125, 126, 127, 128, 129, 130, 131, 132, 133, 134, 135, 136, 137, 138, 139, 140, 141, 142, 143, 144, 145, 146, 147, 148, 149, 150, 151, 152, 153, 154, 155, 156, 157, 158, 159, 160, 161, 162, 163, 164, 165, 166, 167, 168, 169, 170, 171, 172, 173, 174, 175] (by decide +kernel) (by decide +kernel)) (goodIn_sub (fun _ h => List.mem_cons_of_mem _ (List.mem_append_right _ h)) (by decide +kernel))
set_option maxRecDepth 20000 in
theorem gL_shows_X4_shows : GoodIn wsL_shows (wsV RL 40 RX4 yX4_shows wsX4_shows) := goodIn_app (goodIn_of _ (by decide +kernel)) ggL_shows_X4_shows
theorem dL_shows_0 : decode cL_shows 0 = .ok (.aload_n 3, 1) := by decide +kernel
theorem dL_shows_1 : decode cL_shows 1 = .ok (.iconst 0, 1) := by decide +kernel
theorem dL_shows_2 : decode cL_shows 2 = .ok (.aload_n 0, 1) := by decide +kernel
theorem dL_shows_3 : decode cL_shows 3 = .ok (.iload_n 1, 1) := by decide +kernel
theorem dL_shows_4 : decode cL_shows 4 = .ok (.iload_n 2, 1) := by decide +kernel
theorem dL_shows_5 : decode cL_shows 5 = .ok (.invokevirtual 40, 3) := by decide +kernel
theorem dL_shows_8 : decode cL_shows 8 = .ok (.ifCond .eq 7, 3) := by decide +kernel
theorem dL_shows_11 : decode cL_shows 11 = .ok (.lconst 1, 1) := by decide +kernel
theorem dL_shows_12 : decode cL_shows 12 = .ok (.goto 4, 3) := by decide +kernel
theorem dL_shows_15 : decode cL_shows 15 = .ok (.lconst 0, 1) := by decide +kernel
theorem dL_shows_16 : decode cL_shows 16 = .ok (.lastore, 1) := by decide +kernel
theorem dL_shows_17 : decode cL_shows 17 = .ok (.goto 7, 3) := by decide +kernel
theorem dL_shows_20 : decode cL_shows 20 = .ok (.astore 4, 2) := by decide +kernel
theorem dL_shows_22 : decode cL_shows 22 = .ok (.iconst 1, 1) := by decide +kernel
theorem dL_shows_23 : decode cL_shows 23 = .ok (.ireturn, 1) := by decide +kernel
theorem dL_shows_24 : decode cL_shows 24 = .ok (.iconst 0, 1) := by decide +kernel
theorem dL_shows_25 : decode cL_shows 25 = .ok (.ireturn, 1) := by decide +kernel
set_option maxRecDepth 20000 in
theorem ggL_shown_X4_shown : GoodIn wsL_shown wsX4_shown := goodIn_ca (goodIn_r _ [6, 7, 8, 9, 10, 11, 12, 5, 13, 14, 15, 16, 17, 18, 19, 20, 21, 22, 23, 24, 25, 26, 27, 28, 29, 30, 31, 32, 33, 34, 35, 36, 37, 38, 39, 40, 41, 42, 43, 44, 45, 46, 47, 48, 49, 50, 51, 52, 53, 54, 55, 56, 57, 58, 59, 60, 61, 62, 63, 64, 65, 66, 67, 68, 69, 70, 71, 72, 73, 74, 75, 76, 77, 78, 79, 80, 81, 82, 83, 84, 85, 86, 87, 88, 89, 90, 91, 92, 93, 94, 95, 96, 97, 98, 99, 100, 101, 102, 103, 104, 105, 106, 107, 108, 109, 110, 111, 112, 113, 114, 115, 116, 117, 118, 119, 120, 121, 122, 123, 124, 125, 126, 127, 128, 129, 130, 131, 132, 133, 134, 135, 136, 137, 138, 139, 140, 141, 142, 143, 144, 145, 146, 147, 148, 149, 150, 151, 152, 153, 154, 155, 156, 157, 158, 159, 160, 161, 162, 163, 164, 165, 166, 167, 168, 169, 170, 171, 172, 173, 174, 175, 176] (by decide +kernel) (by decide +kernel)) (goodIn_sub (fun _ h => List.mem_cons_of_mem _ (List.mem_append_right _ h)) (by decide +kernel))
set_option maxRecDepth 20000 in
theorem gL_shown_X4_shown : GoodIn wsL_shown (wsV RL 44 RX4 yX4_shown wsX4_shown) := goodIn_app (goodIn_of _ (by decide +kernel)) ggL_shown_X4_shown
theorem dL_shown_0 : decode cL_shown 0 = .ok (.aload_n 2, 1) := by decide +kernel
theorem dL_shown_1 : decode cL_shown 1 = .ok (.iconst 0, 1) := by decide +kernel
theorem dL_shown_2 : decode cL_shown 2 = .ok (.aload_n 0, 1) := by decide +kernel
theorem dL_shown_3 : decode cL_shown 3 = .ok (.iload_n 1, 1) := by decide +kernel
theorem dL_shown_4 : decode cL_shown 4 = .ok (.invokevirtual 44, 3) := by decide +kernel
theorem dL_shown_7 : decode cL_shown 7 = .ok (.i2l, 1) := by decide +kernel
theorem dL_shown_8 : decode cL_shown 8 = .ok (.lastore, 1) := by decide +kernel
theorem dL_shown_9 : decode cL_shown 9 = .ok (.goto 6, 3) := by decide +kernel
theorem dL_shown_12 : decode cL_shown 12 = .ok (.astore_n 3, 1) := by decide +kernel
theorem dL_shown_13 : decode cL_shown 13 = .ok (.iconst 1, 1) := by decide +kernel
theorem dL_shown_14 : decode cL_shown 14 = .ok (.ireturn, 1) := by decide +kernel
theorem dL_shown_15 : decode cL_shown 15 = .ok (.iconst 0, 1) := by decide +kernel
theorem dL_shown_16 : decode cL_shown 16 = .ok (.ireturn, 1) := by decide +kernel
set_option maxRecDepth 20000 in
theorem ggL_pattern_X4_pattern : GoodIn wsL_pattern wsX4_pattern := goodIn_ca (goodIn_r _ [6, 7, 8, 9, 10, 11, 12, 13, 14, 15, 16, 17, 18, 19, 20] (by decide +kernel) (by decide +kernel)) (goodIn_sub (fun _ h => List.mem_cons_of_mem _ (List.mem_append_right _ h)) (by decide +kernel))
set_option maxRecDepth 20000 in
theorem gL_pattern_X4_pattern : GoodIn wsL_pattern (wsV RL 47 RX4 yX4_pattern wsX4_pattern) := goodIn_app (goodIn_of _ (by decide +kernel)) ggL_pattern_X4_pattern
theorem dL_pattern_0 : decode cL_pattern 0 = .ok (.aload_n 2, 1) := by decide +kernel
theorem dL_pattern_1 : decode cL_pattern 1 = .ok (.iconst 0, 1) := by decide +kernel
theorem dL_pattern_2 : decode cL_pattern 2 = .ok (.aload_n 0, 1) := by decide +kernel
theorem dL_pattern_3 : decode cL_pattern 3 = .ok (.iload_n 1, 1) := by decide +kernel
theorem dL_pattern_4 : decode cL_pattern 4 = .ok (.invokevirtual 47, 3) := by decide +kernel
theorem dL_pattern_7 : decode cL_pattern 7 = .ok (.i2l, 1) := by decide +kernel
theorem dL_pattern_8 : decode cL_pattern 8 = .ok (.lastore, 1) := by decide +kernel
theorem dL_pattern_9 : decode cL_pattern 9 = .ok (.goto 6, 3) := by decide +kernel
theorem dL_pattern_12 : decode cL_pattern 12 = .ok (.astore_n 3, 1) := by decide +kernel
theorem dL_pattern_13 : decode cL_pattern 13 = .ok (.iconst 1, 1) := by decide +kernel
theorem dL_pattern_14 : decode cL_pattern 14 = .ok (.ireturn, 1) := by decide +kernel
theorem dL_pattern_15 : decode cL_pattern 15 = .ok (.iconst 0, 1) := by decide +kernel
theorem dL_pattern_16 : decode cL_pattern 16 = .ok (.ireturn, 1) := by decide +kernel
set_option maxRecDepth 20000 in
theorem ggL_left_X4_left : GoodIn wsL_left wsX4_left := goodIn_ca (goodIn_r _ [6, 7, 8, 9, 10, 11, 12, 13, 14, 5, 15, 16, 17, 18, 19, 20, 21, 22, 23, 24, 25, 26, 27, 28, 29, 30, 31, 32, 33, 34, 35, 36, 37, 38, 39, 40, 41, 42, 43, 44, 45, 46, 47, 48, 49, 50, 51, 52, 53, 54, 55, 56, 57, 58, 59, 60, 61, 62, 63, 64, 65, 66, 67, 68, 69, 70, 71, 72, 73, 74, 75, 76, 77, 78, 79, 80, 81, 82, 83, 84, 85, 86, 87, 88, 89, 90, 91, 92, 93, 94, 95, 96, 97, 98, 99, 100, 101, 102, 103, 104, 105, 106, 107, 108] (by decide +kernel) (by decide +kernel)) (goodIn_sub (fun _ h => List.mem_cons_of_mem _ (List.mem_append_right _ h)) (by decide +kernel))
set_option maxRecDepth 20000 in
theorem gL_left_X4_left : GoodIn wsL_left (wsV RL 50 RX4 yX4_left wsX4_left) := goodIn_app (goodIn_of _ (by decide +kernel)) ggL_left_X4_left
theorem dL_left_0 : decode cL_left 0 = .ok (.aload_n 2, 1) := by decide +kernel
theorem dL_left_1 : decode cL_left 1 = .ok (.iconst 0, 1) := by decide +kernel
theorem dL_left_2 : decode cL_left 2 = .ok (.aload_n 0, 1) := by decide +kernel
theorem dL_left_3 : decode cL_left 3 = .ok (.iload_n 1, 1) := by decide +kernel
theorem dL_left_4 : decode cL_left 4 = .ok (.invokevirtual 50, 3) := by decide +kernel
theorem dL_left_7 : decode cL_left 7 = .ok (.i2l, 1) := by decide +kernel
theorem dL_left_8 : decode cL_left 8 = .ok (.lastore, 1) := by decide +kernel
theorem dL_left_9 : decode cL_left 9 = .ok (.goto 6, 3) := by decide +kernel
theorem dL_left_12 : decode cL_left 12 = .ok (.astore_n 3, 1) := by decide +kernel
theorem dL_left_13 : decode cL_left 13 = .ok (.iconst 1, 1) := by decide +kernel
theorem dL_left_14 : decode cL_left 14 = .ok (.ireturn, 1) := by decide +kernel
theorem dL_left_15 : decode cL_left 15 = .ok (.iconst 0, 1) := by decide +kernel
theorem dL_left_16 : decode cL_left 16 = .ok (.ireturn, 1) := by decide +kernel
set_option maxRecDepth 20000 in
theorem ggL_slow_X4_slow : GoodIn wsL_slow wsX4_slow := goodIn_ca (goodIn_r _ [6, 7, 8, 9, 10, 11, 5, 12, 13, 14, 15, 16, 17, 18, 19, 20, 21, 22, 23, 24, 25, 26, 27, 28, 29, 30, 31, 32, 33, 34, 35, 36, 37, 38, 39, 40, 41, 42, 43, 44, 45, 46, 47, 48, 49, 50, 51, 52, 53, 54, 55, 56, 57, 58, 59, 60, 61, 62, 63, 64, 65, 66, 67, 68, 69, 70, 71, 72, 73, 74, 75, 76, 77, 78, 79, 80, 81, 82, 83, 84, 85, 86, 87, 88, 89, 90, 91, 92, 93, 94, 95, 96, 97, 98, 99, 100, 101, 102, 103, 104, 105, 106, 107, 108, 109, 110, 111, 112, 113, 114, 115, 116, 117, 118, 119, 120, 121, 122, 123, 124, 125, 126] (by decide +kernel) (by decide +kernel)) (goodIn_sub (fun _ h => List.mem_cons_of_mem _ (List.mem_append_right _ h)) (by decide +kernel))
set_option maxRecDepth 20000 in
theorem gL_slow_X4_slow : GoodIn wsL_slow (wsV RL 53 RX4 yX4_slow wsX4_slow) := goodIn_app (goodIn_of _ (by decide +kernel)) ggL_slow_X4_slow
theorem dL_slow_0 : decode cL_slow 0 = .ok (.aload 4, 2) := by decide +kernel
theorem dL_slow_2 : decode cL_slow 2 = .ok (.iconst 0, 1) := by decide +kernel
theorem dL_slow_3 : decode cL_slow 3 = .ok (.aload_n 0, 1) := by decide +kernel
theorem dL_slow_4 : decode cL_slow 4 = .ok (.iload_n 1, 1) := by decide +kernel
theorem dL_slow_5 : decode cL_slow 5 = .ok (.iload_n 2, 1) := by decide +kernel
theorem dL_slow_6 : decode cL_slow 6 = .ok (.iload_n 3, 1) := by decide +kernel
theorem dL_slow_7 : decode cL_slow 7 = .ok (.invokevirtual 53, 3) := by decide +kernel
theorem dL_slow_10 : decode cL_slow 10 = .ok (.i2l, 1) := by decide +kernel
theorem dL_slow_11 : decode cL_slow 11 = .ok (.lastore, 1) := by decide +kernel
theorem dL_slow_12 : decode cL_slow 12 = .ok (.goto 7, 3) := by decide +kernel
theorem dL_slow_15 : decode cL_slow 15 = .ok (.astore 5, 2) := by decide +kernel
theorem dL_slow_17 : decode cL_slow 17 = .ok (.iconst 1, 1) := by decide +kernel
theorem dL_slow_18 : decode cL_slow 18 = .ok (.ireturn, 1) := by decide +kernel
theorem dL_slow_19 : decode cL_slow 19 = .ok (.iconst 0, 1) := by decide +kernel
theorem dL_slow_20 : decode cL_slow 20 = .ok (.ireturn, 1) := by decide +kernel
set_option maxRecDepth 20000 in
theorem ggL_count_X4_count : GoodIn wsL_count wsX4_count := goodIn_ca (goodIn_r _ [6, 7, 8, 9, 10, 11, 12, 13, 14, 15, 16, 17, 18, 5, 19, 20, 21, 22, 23, 24, 25, 26, 27, 28, 29, 30, 31, 32, 33, 34, 35, 36, 37, 38, 39, 40, 41, 42, 43, 44, 45, 46, 47, 48, 49, 50, 51, 52, 53, 54, 55, 56, 57, 58, 59, 60, 61, 62, 63, 64, 65, 66, 67, 68, 69, 70, 71, 72, 73, 74, 75, 76, 77, 78, 79, 80, 81, 82, 83, 84, 85, 86, 87, 88, 89, 90, 91, 92, 93, 94, 95, 96, 97, 98, 99, 100, 101, 102, 103, 104, 105, 106, 107, 108, 109, 110, 111, 112, 113, 114, 115, 116, 117, 118, 119, 120, 121, 122, 123, 124, 125, 126, 127, 128, 129, 130, 131, 132, 133, 134, 135, 136, 137, 138, 139, 140, 141, 142, 143, 144, 145, 146, 147, 148, 149, 150, 151, 152, 153, 154, 155, 156, 157, 158, 159, 160, 161, 162, 163, 164, 165, 166, 167, 168, 169, 170, 171, 172, 173, 174, 175, 176, 177, 178, 179, 180, 181, 182, 183, 184, 185, 186, 187, 188] (by decide +kernel) (by decide +kernel)) (goodIn_sub (fun _ h => List.mem_cons_of_mem _ (List.mem_append_right _ h)) (by decide +kernel))
set_option maxRecDepth 20000 in
theorem gL_count_X4_count : GoodIn wsL_count (wsV RL 56 RX4 yX4_count wsX4_count) := goodIn_app (goodIn_of _ (by decide +kernel)) ggL_count_X4_count
theorem dL_count_0 : decode cL_count 0 = .ok (.aload_n 2, 1) := by decide +kernel
theorem dL_count_1 : decode cL_count 1 = .ok (.iconst 0, 1) := by decide +kernel
theorem dL_count_2 : decode cL_count 2 = .ok (.aload_n 0, 1) := by decide +kernel
theorem dL_count_3 : decode cL_count 3 = .ok (.iload_n 1, 1) := by decide +kernel
theorem dL_count_4 : decode cL_count 4 = .ok (.invokevirtual 56, 3) := by decide +kernel
theorem dL_count_7 : decode cL_count 7 = .ok (.i2l, 1) := by decide +kernel
theorem dL_count_8 : decode cL_count 8 = .ok (.lastore, 1) := by decide +kernel
theorem dL_count_9 : decode cL_count 9 = .ok (.goto 6, 3) := by decide +kernel
theorem dL_count_12 : decode cL_count 12 = .ok (.astore_n 3, 1) := by decide +kernel
theorem dL_count_13 : decode cL_count 13 = .ok (.iconst 1, 1) := by decide +kernel
theorem dL_count_14 : decode cL_count 14 = .ok (.ireturn, 1) := by decide +kernel
theorem dL_count_15 : decode cL_count 15 = .ok (.iconst 0, 1) := by decide +kernel
theorem dL_count_16 : decode cL_count 16 = .ok (.ireturn, 1) := by decide +kernel
abbrev vwCl : List vw_C := [(RX0, TX0, 8), (RX1, TX1, 6), (RX2, TX2, 4), (RX3, TX3, 4), (RX4, TX4, 5), (RX5, TX5, 18)]

