theorem dX0_init_0 : decode cX0_init 0 = .ok (.aload_n 0, 1) := by decide +kernel
theorem dX0_init_1 : decode cX0_init 1 = .ok (.invokespecial 3, 3) := by decide +kernel
theorem dX0_init_4 : decode cX0_init 4 = .ok (.aload_n 0, 1) := by decide +kernel
theorem dX0_init_5 : decode cX0_init 5 = .ok (.bipush 100, 2) := by decide +kernel
theorem dX0_init_7 : decode cX0_init 7 = .ok (.newarray .int, 2) := by decide +kernel
theorem dX0_init_9 : decode cX0_init 9 = .ok (.putfield 9, 3) := by decide +kernel
theorem dX0_init_12 : decode cX0_init 12 = .ok (.aload_n 0, 1) := by decide +kernel
theorem dX0_init_13 : decode cX0_init 13 = .ok (.bipush 100, 2) := by decide +kernel
theorem dX0_init_15 : decode cX0_init 15 = .ok (.newarray .int, 2) := by decide +kernel
theorem dX0_init_17 : decode cX0_init 17 = .ok (.putfield 15, 3) := by decide +kernel
theorem dX0_init_20 : decode cX0_init 20 = .ok (.aload_n 0, 1) := by decide +kernel
theorem dX0_init_21 : decode cX0_init 21 = .ok (.bipush 100, 2) := by decide +kernel
theorem dX0_init_23 : decode cX0_init 23 = .ok (.newarray .int, 2) := by decide +kernel
theorem dX0_init_25 : decode cX0_init 25 = .ok (.putfield 18, 3) := by decide +kernel
theorem dX0_init_28 : decode cX0_init 28 = .ok (.aload_n 0, 1) := by decide +kernel
theorem dX0_init_29 : decode cX0_init 29 = .ok (.bipush 12, 2) := by decide +kernel
theorem dX0_init_31 : decode cX0_init 31 = .ok (.newarray .int, 2) := by decide +kernel
theorem dX0_init_33 : decode cX0_init 33 = .ok (.putfield 21, 3) := by decide +kernel
theorem dX0_init_36 : decode cX0_init 36 = .ok (.aload_n 0, 1) := by decide +kernel
theorem dX0_init_37 : decode cX0_init 37 = .ok (.sipush 1600, 3) := by decide +kernel
theorem dX0_init_40 : decode cX0_init 40 = .ok (.newarray .long, 2) := by decide +kernel
theorem dX0_init_42 : decode cX0_init 42 = .ok (.putfield 24, 3) := by decide +kernel
theorem dX0_init_45 : decode cX0_init 45 = .ok (.return_, 1) := by decide +kernel
theorem dX0_empty_0 : decode cX0_empty 0 = .ok (.aload_n 0, 1) := by decide +kernel
theorem dX0_empty_1 : decode cX0_empty 1 = .ok (.iconst 0, 1) := by decide +kernel
theorem dX0_empty_2 : decode cX0_empty 2 = .ok (.putfield 28, 3) := by decide +kernel
theorem dX0_empty_5 : decode cX0_empty 5 = .ok (.aload_n 0, 1) := by decide +kernel
theorem dX0_empty_6 : decode cX0_empty 6 = .ok (.iconst 0, 1) := by decide +kernel
theorem dX0_empty_7 : decode cX0_empty 7 = .ok (.putfield 32, 3) := by decide +kernel
theorem dX0_empty_10 : decode cX0_empty 10 = .ok (.aload_n 0, 1) := by decide +kernel
theorem dX0_empty_11 : decode cX0_empty 11 = .ok (.iconst 0, 1) := by decide +kernel
theorem dX0_empty_12 : decode cX0_empty 12 = .ok (.putfield 35, 3) := by decide +kernel
theorem dX0_empty_15 : decode cX0_empty 15 = .ok (.return_, 1) := by decide +kernel
theorem dX0_hasNet_0 : decode cX0_hasNet 0 = .ok (.iload_n 1, 1) := by decide +kernel
theorem dX0_hasNet_1 : decode cX0_hasNet 1 = .ok (.ifCond .lt 15, 3) := by decide +kernel
theorem dX0_hasNet_4 : decode cX0_hasNet 4 = .ok (.iload_n 1, 1) := by decide +kernel
theorem dX0_hasNet_5 : decode cX0_hasNet 5 = .ok (.aload_n 0, 1) := by decide +kernel
theorem dX0_hasNet_6 : decode cX0_hasNet 6 = .ok (.getfield 28, 3) := by decide +kernel
theorem dX0_hasNet_9 : decode cX0_hasNet 9 = .ok (.if_icmp .ge 7, 3) := by decide +kernel
theorem dX0_hasNet_12 : decode cX0_hasNet 12 = .ok (.iconst 1, 1) := by decide +kernel
theorem dX0_hasNet_13 : decode cX0_hasNet 13 = .ok (.goto 4, 3) := by decide +kernel
theorem dX0_hasNet_16 : decode cX0_hasNet 16 = .ok (.iconst 0, 1) := by decide +kernel
theorem dX0_hasNet_17 : decode cX0_hasNet 17 = .ok (.ireturn, 1) := by decide +kernel
set_option maxRecDepth 20000 in
theorem ggX0_pins_X4_isOnePin : GoodIn wsX0_pins wsX4_isOnePin := goodIn_r _ [4] (by decide +kernel) (by decide +kernel)
set_option maxRecDepth 20000 in
theorem gX0_pins_X4_isOnePin_n38 : GoodIn wsX0_pins (wsX4_isOnePin) := ggX0_pins_X4_isOnePin
theorem dX0_pins_0 : decode cX0_pins 0 = .ok (.aload_n 0, 1) := by decide +kernel
theorem dX0_pins_1 : decode cX0_pins 1 = .ok (.getfield 9, 3) := by decide +kernel
theorem dX0_pins_4 : decode cX0_pins 4 = .ok (.iload_n 1, 1) := by decide +kernel
theorem dX0_pins_5 : decode cX0_pins 5 = .ok (.iaload, 1) := by decide +kernel
theorem dX0_pins_6 : decode cX0_pins 6 = .ok (.iconst (-1), 1) := by decide +kernel
theorem dX0_pins_7 : decode cX0_pins 7 = .ok (.if_icmp .ne 5, 3) := by decide +kernel
theorem dX0_pins_10 : decode cX0_pins 10 = .ok (.iconst 0, 1) := by decide +kernel
theorem dX0_pins_11 : decode cX0_pins 11 = .ok (.ireturn, 1) := by decide +kernel
theorem dX0_pins_12 : decode cX0_pins 12 = .ok (.aload_n 0, 1) := by decide +kernel
theorem dX0_pins_13 : decode cX0_pins 13 = .ok (.getfield 9, 3) := by decide +kernel
theorem dX0_pins_16 : decode cX0_pins 16 = .ok (.iload_n 1, 1) := by decide +kernel
theorem dX0_pins_17 : decode cX0_pins 17 = .ok (.iaload, 1) := by decide +kernel
theorem dX0_pins_18 : decode cX0_pins 18 = .ok (.invokestatic 38, 3) := by decide +kernel
theorem dX0_pins_21 : decode cX0_pins 21 = .ok (.ifCond .eq 7, 3) := by decide +kernel
theorem dX0_pins_24 : decode cX0_pins 24 = .ok (.iconst 1, 1) := by decide +kernel
theorem dX0_pins_25 : decode cX0_pins 25 = .ok (.goto 4, 3) := by decide +kernel
theorem dX0_pins_28 : decode cX0_pins 28 = .ok (.iconst 2, 1) := by decide +kernel
theorem dX0_pins_29 : decode cX0_pins 29 = .ok (.ireturn, 1) := by decide +kernel
theorem dX0_source_0 : decode cX0_source 0 = .ok (.iload_n 2, 1) := by decide +kernel
theorem dX0_source_1 : decode cX0_source 1 = .ok (.ifCond .ne 12, 3) := by decide +kernel
theorem dX0_source_4 : decode cX0_source 4 = .ok (.aload_n 0, 1) := by decide +kernel
theorem dX0_source_5 : decode cX0_source 5 = .ok (.getfield 15, 3) := by decide +kernel
theorem dX0_source_8 : decode cX0_source 8 = .ok (.iload_n 1, 1) := by decide +kernel
theorem dX0_source_9 : decode cX0_source 9 = .ok (.iaload, 1) := by decide +kernel
theorem dX0_source_10 : decode cX0_source 10 = .ok (.goto 9, 3) := by decide +kernel
theorem dX0_source_13 : decode cX0_source 13 = .ok (.aload_n 0, 1) := by decide +kernel
theorem dX0_source_14 : decode cX0_source 14 = .ok (.getfield 18, 3) := by decide +kernel
theorem dX0_source_17 : decode cX0_source 17 = .ok (.iload_n 1, 1) := by decide +kernel
theorem dX0_source_18 : decode cX0_source 18 = .ok (.iaload, 1) := by decide +kernel
theorem dX0_source_19 : decode cX0_source 19 = .ok (.ireturn, 1) := by decide +kernel
set_option maxRecDepth 20000 in
theorem ggX0_addInput_X0_inputWord : GoodIn wsX0_addInput wsX0_inputWord := goodIn_r _ [8, 9, 10, 11, 12] (by decide +kernel) (by decide +kernel)
set_option maxRecDepth 20000 in
theorem gX0_addInput_X0_inputWord : GoodIn wsX0_addInput (va_wsS RX0 42 yX0_inputWord wsX0_inputWord) := goodIn_app (goodIn_of _ (by decide +kernel)) ggX0_addInput_X0_inputWord
theorem dX0_addInput_0 : decode cX0_addInput 0 = .ok (.aload_n 0, 1) := by decide +kernel
theorem dX0_addInput_1 : decode cX0_addInput 1 = .ok (.getfield 28, 3) := by decide +kernel
theorem dX0_addInput_4 : decode cX0_addInput 4 = .ok (.istore_n 1, 1) := by decide +kernel
theorem dX0_addInput_5 : decode cX0_addInput 5 = .ok (.aload_n 0, 1) := by decide +kernel
theorem dX0_addInput_6 : decode cX0_addInput 6 = .ok (.getfield 9, 3) := by decide +kernel
theorem dX0_addInput_9 : decode cX0_addInput 9 = .ok (.iload_n 1, 1) := by decide +kernel
theorem dX0_addInput_10 : decode cX0_addInput 10 = .ok (.iconst (-1), 1) := by decide +kernel
theorem dX0_addInput_11 : decode cX0_addInput 11 = .ok (.iastore, 1) := by decide +kernel
theorem dX0_addInput_12 : decode cX0_addInput 12 = .ok (.iconst 0, 1) := by decide +kernel
theorem dX0_addInput_13 : decode cX0_addInput 13 = .ok (.istore_n 2, 1) := by decide +kernel
theorem dX0_addInput_14 : decode cX0_addInput 14 = .ok (.iload_n 2, 1) := by decide +kernel
theorem dX0_addInput_15 : decode cX0_addInput 15 = .ok (.bipush 16, 2) := by decide +kernel
theorem dX0_addInput_17 : decode cX0_addInput 17 = .ok (.if_icmp .ge 28, 3) := by decide +kernel
theorem dX0_addInput_20 : decode cX0_addInput 20 = .ok (.aload_n 0, 1) := by decide +kernel
theorem dX0_addInput_21 : decode cX0_addInput 21 = .ok (.getfield 24, 3) := by decide +kernel
theorem dX0_addInput_24 : decode cX0_addInput 24 = .ok (.iload_n 2, 1) := by decide +kernel
theorem dX0_addInput_25 : decode cX0_addInput 25 = .ok (.bipush 100, 2) := by decide +kernel
theorem dX0_addInput_27 : decode cX0_addInput 27 = .ok (.imul, 1) := by decide +kernel
theorem dX0_addInput_28 : decode cX0_addInput 28 = .ok (.iload_n 1, 1) := by decide +kernel
theorem dX0_addInput_29 : decode cX0_addInput 29 = .ok (.iadd, 1) := by decide +kernel
theorem dX0_addInput_30 : decode cX0_addInput 30 = .ok (.aload_n 0, 1) := by decide +kernel
theorem dX0_addInput_31 : decode cX0_addInput 31 = .ok (.getfield 32, 3) := by decide +kernel
theorem dX0_addInput_34 : decode cX0_addInput 34 = .ok (.iload_n 2, 1) := by decide +kernel
theorem dX0_addInput_35 : decode cX0_addInput 35 = .ok (.invokestatic 42, 3) := by decide +kernel
theorem dX0_addInput_38 : decode cX0_addInput 38 = .ok (.lastore, 1) := by decide +kernel
theorem dX0_addInput_39 : decode cX0_addInput 39 = .ok (.iinc 2 1, 3) := by decide +kernel
theorem dX0_addInput_42 : decode cX0_addInput 42 = .ok (.goto (-28), 3) := by decide +kernel
theorem dX0_addInput_45 : decode cX0_addInput 45 = .ok (.aload_n 0, 1) := by decide +kernel
theorem dX0_addInput_46 : decode cX0_addInput 46 = .ok (.dup, 1) := by decide +kernel
theorem dX0_addInput_47 : decode cX0_addInput 47 = .ok (.getfield 28, 3) := by decide +kernel
theorem dX0_addInput_50 : decode cX0_addInput 50 = .ok (.iconst 1, 1) := by decide +kernel
theorem dX0_addInput_51 : decode cX0_addInput 51 = .ok (.iadd, 1) := by decide +kernel
theorem dX0_addInput_52 : decode cX0_addInput 52 = .ok (.putfield 28, 3) := by decide +kernel
theorem dX0_addInput_55 : decode cX0_addInput 55 = .ok (.aload_n 0, 1) := by decide +kernel
theorem dX0_addInput_56 : decode cX0_addInput 56 = .ok (.dup, 1) := by decide +kernel
theorem dX0_addInput_57 : decode cX0_addInput 57 = .ok (.getfield 32, 3) := by decide +kernel
theorem dX0_addInput_60 : decode cX0_addInput 60 = .ok (.iconst 1, 1) := by decide +kernel
theorem dX0_addInput_61 : decode cX0_addInput 61 = .ok (.iadd, 1) := by decide +kernel
theorem dX0_addInput_62 : decode cX0_addInput 62 = .ok (.putfield 32, 3) := by decide +kernel
theorem dX0_addInput_65 : decode cX0_addInput 65 = .ok (.iload_n 1, 1) := by decide +kernel
theorem dX0_addInput_66 : decode cX0_addInput 66 = .ok (.ireturn, 1) := by decide +kernel
set_option maxRecDepth 20000 in
theorem ggX0_addGate_X0_wordOf : GoodIn wsX0_addGate wsX0_wordOf := goodIn_r _ [10, 5, 15, 16, 17, 18, 19, 20, 21, 22] (by decide +kernel) (by decide +kernel)
set_option maxRecDepth 20000 in
theorem gX0_addGate_X0_wordOf : GoodIn wsX0_addGate (wsV RX0 46 RX0 yX0_wordOf wsX0_wordOf) := goodIn_app (goodIn_of _ (by decide +kernel)) ggX0_addGate_X0_wordOf
set_option maxRecDepth 20000 in
theorem ggX0_addGate_X4_gateWord : GoodIn wsX0_addGate wsX4_gateWord := goodIn_r _ [13, 14] (by decide +kernel) (by decide +kernel)
set_option maxRecDepth 20000 in
theorem gX0_addGate_X4_gateWord_n49 : GoodIn wsX0_addGate (wsX4_gateWord) := ggX0_addGate_X4_gateWord
theorem dX0_addGate_0 : decode cX0_addGate 0 = .ok (.aload_n 0, 1) := by decide +kernel
theorem dX0_addGate_1 : decode cX0_addGate 1 = .ok (.getfield 28, 3) := by decide +kernel
theorem dX0_addGate_4 : decode cX0_addGate 4 = .ok (.istore 4, 2) := by decide +kernel
theorem dX0_addGate_6 : decode cX0_addGate 6 = .ok (.aload_n 0, 1) := by decide +kernel
theorem dX0_addGate_7 : decode cX0_addGate 7 = .ok (.getfield 9, 3) := by decide +kernel
theorem dX0_addGate_10 : decode cX0_addGate 10 = .ok (.iload 4, 2) := by decide +kernel
theorem dX0_addGate_12 : decode cX0_addGate 12 = .ok (.iload_n 1, 1) := by decide +kernel
theorem dX0_addGate_13 : decode cX0_addGate 13 = .ok (.iastore, 1) := by decide +kernel
theorem dX0_addGate_14 : decode cX0_addGate 14 = .ok (.aload_n 0, 1) := by decide +kernel
theorem dX0_addGate_15 : decode cX0_addGate 15 = .ok (.getfield 15, 3) := by decide +kernel
theorem dX0_addGate_18 : decode cX0_addGate 18 = .ok (.iload 4, 2) := by decide +kernel
theorem dX0_addGate_20 : decode cX0_addGate 20 = .ok (.iload_n 2, 1) := by decide +kernel
theorem dX0_addGate_21 : decode cX0_addGate 21 = .ok (.iastore, 1) := by decide +kernel
theorem dX0_addGate_22 : decode cX0_addGate 22 = .ok (.aload_n 0, 1) := by decide +kernel
theorem dX0_addGate_23 : decode cX0_addGate 23 = .ok (.getfield 18, 3) := by decide +kernel
theorem dX0_addGate_26 : decode cX0_addGate 26 = .ok (.iload 4, 2) := by decide +kernel
theorem dX0_addGate_28 : decode cX0_addGate 28 = .ok (.iload_n 3, 1) := by decide +kernel
theorem dX0_addGate_29 : decode cX0_addGate 29 = .ok (.iastore, 1) := by decide +kernel
theorem dX0_addGate_30 : decode cX0_addGate 30 = .ok (.iconst 0, 1) := by decide +kernel
theorem dX0_addGate_31 : decode cX0_addGate 31 = .ok (.istore 5, 2) := by decide +kernel
theorem dX0_addGate_33 : decode cX0_addGate 33 = .ok (.iload 5, 2) := by decide +kernel
theorem dX0_addGate_35 : decode cX0_addGate 35 = .ok (.bipush 16, 2) := by decide +kernel
theorem dX0_addGate_37 : decode cX0_addGate 37 = .ok (.if_icmp .ge 40, 3) := by decide +kernel
theorem dX0_addGate_40 : decode cX0_addGate 40 = .ok (.aload_n 0, 1) := by decide +kernel
theorem dX0_addGate_41 : decode cX0_addGate 41 = .ok (.getfield 24, 3) := by decide +kernel
theorem dX0_addGate_44 : decode cX0_addGate 44 = .ok (.iload 5, 2) := by decide +kernel
theorem dX0_addGate_46 : decode cX0_addGate 46 = .ok (.bipush 100, 2) := by decide +kernel
theorem dX0_addGate_48 : decode cX0_addGate 48 = .ok (.imul, 1) := by decide +kernel
theorem dX0_addGate_49 : decode cX0_addGate 49 = .ok (.iload 4, 2) := by decide +kernel
theorem dX0_addGate_51 : decode cX0_addGate 51 = .ok (.iadd, 1) := by decide +kernel
theorem dX0_addGate_52 : decode cX0_addGate 52 = .ok (.iload_n 1, 1) := by decide +kernel
theorem dX0_addGate_53 : decode cX0_addGate 53 = .ok (.aload_n 0, 1) := by decide +kernel
theorem dX0_addGate_54 : decode cX0_addGate 54 = .ok (.iload_n 2, 1) := by decide +kernel
theorem dX0_addGate_55 : decode cX0_addGate 55 = .ok (.iload 5, 2) := by decide +kernel
theorem dX0_addGate_57 : decode cX0_addGate 57 = .ok (.invokevirtual 46, 3) := by decide +kernel
theorem dX0_addGate_60 : decode cX0_addGate 60 = .ok (.aload_n 0, 1) := by decide +kernel
theorem dX0_addGate_61 : decode cX0_addGate 61 = .ok (.iload_n 3, 1) := by decide +kernel
theorem dX0_addGate_62 : decode cX0_addGate 62 = .ok (.iload 5, 2) := by decide +kernel
theorem dX0_addGate_64 : decode cX0_addGate 64 = .ok (.invokevirtual 46, 3) := by decide +kernel
theorem dX0_addGate_67 : decode cX0_addGate 67 = .ok (.invokestatic 49, 3) := by decide +kernel
theorem dX0_addGate_70 : decode cX0_addGate 70 = .ok (.lastore, 1) := by decide +kernel
theorem dX0_addGate_71 : decode cX0_addGate 71 = .ok (.iinc 5 1, 3) := by decide +kernel
theorem dX0_addGate_74 : decode cX0_addGate 74 = .ok (.goto (-41), 3) := by decide +kernel
theorem dX0_addGate_77 : decode cX0_addGate 77 = .ok (.aload_n 0, 1) := by decide +kernel
theorem dX0_addGate_78 : decode cX0_addGate 78 = .ok (.dup, 1) := by decide +kernel
theorem dX0_addGate_79 : decode cX0_addGate 79 = .ok (.getfield 28, 3) := by decide +kernel
theorem dX0_addGate_82 : decode cX0_addGate 82 = .ok (.iconst 1, 1) := by decide +kernel
theorem dX0_addGate_83 : decode cX0_addGate 83 = .ok (.iadd, 1) := by decide +kernel
theorem dX0_addGate_84 : decode cX0_addGate 84 = .ok (.putfield 28, 3) := by decide +kernel
theorem dX0_addGate_87 : decode cX0_addGate 87 = .ok (.iload 4, 2) := by decide +kernel
theorem dX0_addGate_89 : decode cX0_addGate 89 = .ok (.ireturn, 1) := by decide +kernel
theorem dX0_addOutput_0 : decode cX0_addOutput 0 = .ok (.aload_n 0, 1) := by decide +kernel
theorem dX0_addOutput_1 : decode cX0_addOutput 1 = .ok (.getfield 35, 3) := by decide +kernel
theorem dX0_addOutput_4 : decode cX0_addOutput 4 = .ok (.istore_n 2, 1) := by decide +kernel
theorem dX0_addOutput_5 : decode cX0_addOutput 5 = .ok (.aload_n 0, 1) := by decide +kernel
theorem dX0_addOutput_6 : decode cX0_addOutput 6 = .ok (.getfield 21, 3) := by decide +kernel
theorem dX0_addOutput_9 : decode cX0_addOutput 9 = .ok (.iload_n 2, 1) := by decide +kernel
theorem dX0_addOutput_10 : decode cX0_addOutput 10 = .ok (.iload_n 1, 1) := by decide +kernel
theorem dX0_addOutput_11 : decode cX0_addOutput 11 = .ok (.iastore, 1) := by decide +kernel
theorem dX0_addOutput_12 : decode cX0_addOutput 12 = .ok (.aload_n 0, 1) := by decide +kernel
theorem dX0_addOutput_13 : decode cX0_addOutput 13 = .ok (.dup, 1) := by decide +kernel
theorem dX0_addOutput_14 : decode cX0_addOutput 14 = .ok (.getfield 35, 3) := by decide +kernel
theorem dX0_addOutput_17 : decode cX0_addOutput 17 = .ok (.iconst 1, 1) := by decide +kernel
theorem dX0_addOutput_18 : decode cX0_addOutput 18 = .ok (.iadd, 1) := by decide +kernel
theorem dX0_addOutput_19 : decode cX0_addOutput 19 = .ok (.putfield 35, 3) := by decide +kernel
theorem dX0_addOutput_22 : decode cX0_addOutput 22 = .ok (.iload_n 2, 1) := by decide +kernel
theorem dX0_addOutput_23 : decode cX0_addOutput 23 = .ok (.ireturn, 1) := by decide +kernel
theorem dX0_wordOf_0 : decode cX0_wordOf 0 = .ok (.aload_n 0, 1) := by decide +kernel
theorem dX0_wordOf_1 : decode cX0_wordOf 1 = .ok (.getfield 24, 3) := by decide +kernel
theorem dX0_wordOf_4 : decode cX0_wordOf 4 = .ok (.iload_n 2, 1) := by decide +kernel
theorem dX0_wordOf_5 : decode cX0_wordOf 5 = .ok (.bipush 100, 2) := by decide +kernel
theorem dX0_wordOf_7 : decode cX0_wordOf 7 = .ok (.imul, 1) := by decide +kernel
theorem dX0_wordOf_8 : decode cX0_wordOf 8 = .ok (.iload_n 1, 1) := by decide +kernel
theorem dX0_wordOf_9 : decode cX0_wordOf 9 = .ok (.iadd, 1) := by decide +kernel
theorem dX0_wordOf_10 : decode cX0_wordOf 10 = .ok (.laload, 1) := by decide +kernel
theorem dX0_wordOf_11 : decode cX0_wordOf 11 = .ok (.lreturn, 1) := by decide +kernel
theorem dX0_words_0 : decode cX0_words 0 = .ok (.aload_n 0, 1) := by decide +kernel
theorem dX0_words_1 : decode cX0_words 1 = .ok (.getfield 32, 3) := by decide +kernel
theorem dX0_words_4 : decode cX0_words 4 = .ok (.bipush 6, 2) := by decide +kernel
theorem dX0_words_6 : decode cX0_words 6 = .ok (.if_icmp .gt 7, 3) := by decide +kernel
theorem dX0_words_9 : decode cX0_words 9 = .ok (.iconst 1, 1) := by decide +kernel
theorem dX0_words_10 : decode cX0_words 10 = .ok (.goto 12, 3) := by decide +kernel
theorem dX0_words_13 : decode cX0_words 13 = .ok (.iconst 1, 1) := by decide +kernel
theorem dX0_words_14 : decode cX0_words 14 = .ok (.aload_n 0, 1) := by decide +kernel
theorem dX0_words_15 : decode cX0_words 15 = .ok (.getfield 32, 3) := by decide +kernel
theorem dX0_words_18 : decode cX0_words 18 = .ok (.bipush 6, 2) := by decide +kernel
theorem dX0_words_20 : decode cX0_words 20 = .ok (.isub, 1) := by decide +kernel
theorem dX0_words_21 : decode cX0_words 21 = .ok (.ishl, 1) := by decide +kernel
theorem dX0_words_22 : decode cX0_words 22 = .ok (.ireturn, 1) := by decide +kernel
theorem dX0_mask_0 : decode cX0_mask 0 = .ok (.aload_n 0, 1) := by decide +kernel
theorem dX0_mask_1 : decode cX0_mask 1 = .ok (.getfield 32, 3) := by decide +kernel
theorem dX0_mask_4 : decode cX0_mask 4 = .ok (.bipush 6, 2) := by decide +kernel
theorem dX0_mask_6 : decode cX0_mask 6 = .ok (.if_icmp .lt 9, 3) := by decide +kernel
theorem dX0_mask_9 : decode cX0_mask 9 = .ok (.ldc2_w 53, 3) := by decide +kernel
theorem dX0_mask_12 : decode cX0_mask 12 = .ok (.goto 13, 3) := by decide +kernel
theorem dX0_mask_15 : decode cX0_mask 15 = .ok (.lconst 1, 1) := by decide +kernel
theorem dX0_mask_16 : decode cX0_mask 16 = .ok (.iconst 1, 1) := by decide +kernel
theorem dX0_mask_17 : decode cX0_mask 17 = .ok (.aload_n 0, 1) := by decide +kernel
theorem dX0_mask_18 : decode cX0_mask 18 = .ok (.getfield 32, 3) := by decide +kernel
theorem dX0_mask_21 : decode cX0_mask 21 = .ok (.ishl, 1) := by decide +kernel
theorem dX0_mask_22 : decode cX0_mask 22 = .ok (.lshl, 1) := by decide +kernel
theorem dX0_mask_23 : decode cX0_mask 23 = .ok (.lconst 1, 1) := by decide +kernel
theorem dX0_mask_24 : decode cX0_mask 24 = .ok (.lsub, 1) := by decide +kernel
theorem dX0_mask_25 : decode cX0_mask 25 = .ok (.lreturn, 1) := by decide +kernel
theorem dX0_known_0 : decode cX0_known 0 = .ok (.iload_n 1, 1) := by decide +kernel
theorem dX0_known_1 : decode cX0_known 1 = .ok (.iconst 1, 1) := by decide +kernel
theorem dX0_known_2 : decode cX0_known 2 = .ok (.aload_n 0, 1) := by decide +kernel
theorem dX0_known_3 : decode cX0_known 3 = .ok (.getfield 32, 3) := by decide +kernel
theorem dX0_known_6 : decode cX0_known 6 = .ok (.ishl, 1) := by decide +kernel
theorem dX0_known_7 : decode cX0_known 7 = .ok (.iconst 1, 1) := by decide +kernel
theorem dX0_known_8 : decode cX0_known 8 = .ok (.isub, 1) := by decide +kernel
theorem dX0_known_9 : decode cX0_known 9 = .ok (.iand, 1) := by decide +kernel
theorem dX0_known_10 : decode cX0_known 10 = .ok (.ireturn, 1) := by decide +kernel
set_option maxRecDepth 20000 in
theorem ggX0_leastWith_X0_words : GoodIn wsX0_leastWith wsX0_words := goodIn_r _ [6, 7, 30, 31, 32, 33, 34, 35, 36, 37] (by decide +kernel) (by decide +kernel)
set_option maxRecDepth 20000 in
theorem gX0_leastWith_X0_words : GoodIn wsX0_leastWith (wsV RX0 55 RX0 yX0_words wsX0_words) := goodIn_app (goodIn_of _ (by decide +kernel)) ggX0_leastWith_X0_words
set_option maxRecDepth 20000 in
theorem ggX0_leastWith_X0_wordOf : GoodIn wsX0_leastWith wsX0_wordOf := goodIn_r _ [11, 12, 30, 31, 32, 33, 34, 35, 36, 37] (by decide +kernel) (by decide +kernel)
set_option maxRecDepth 20000 in
theorem gX0_leastWith_X0_wordOf : GoodIn wsX0_leastWith (wsV RX0 46 RX0 yX0_wordOf wsX0_wordOf) := goodIn_app (goodIn_of _ (by decide +kernel)) ggX0_leastWith_X0_wordOf
set_option maxRecDepth 20000 in
theorem ggX0_leastWith_X4_allOf : GoodIn wsX0_leastWith wsX4_allOf := goodIn_r _ [15, 16] (by decide +kernel) (by decide +kernel)
set_option maxRecDepth 20000 in
theorem gX0_leastWith_X4_allOf_n59 : GoodIn wsX0_leastWith (wsX4_allOf) := ggX0_leastWith_X4_allOf
set_option maxRecDepth 20000 in
theorem ggX0_leastWith_X0_mask : GoodIn wsX0_leastWith wsX0_mask := goodIn_r _ [20, 7, 1, 30, 31, 32, 33, 34, 35, 36, 37] (by decide +kernel) (by decide +kernel)
set_option maxRecDepth 20000 in
theorem gX0_leastWith_X0_mask : GoodIn wsX0_leastWith (wsV RX0 63 RX0 yX0_mask wsX0_mask) := goodIn_app (goodIn_of _ (by decide +kernel)) ggX0_leastWith_X0_mask
set_option maxRecDepth 20000 in
theorem ggX0_leastWith_X4_lowestBit : GoodIn wsX0_leastWith wsX4_lowestBit := goodIn_r _ [22, 23, 24, 25, 26, 27, 28, 29] (by decide +kernel) (by decide +kernel)
set_option maxRecDepth 20000 in
theorem gX0_leastWith_X4_lowestBit_n67 : GoodIn wsX0_leastWith (wsX4_lowestBit) := ggX0_leastWith_X4_lowestBit
theorem dX0_leastWith_0 : decode cX0_leastWith 0 = .ok (.iconst 0, 1) := by decide +kernel
theorem dX0_leastWith_1 : decode cX0_leastWith 1 = .ok (.istore_n 3, 1) := by decide +kernel
theorem dX0_leastWith_2 : decode cX0_leastWith 2 = .ok (.iload_n 3, 1) := by decide +kernel
theorem dX0_leastWith_3 : decode cX0_leastWith 3 = .ok (.aload_n 0, 1) := by decide +kernel
theorem dX0_leastWith_4 : decode cX0_leastWith 4 = .ok (.invokevirtual 55, 3) := by decide +kernel
theorem dX0_leastWith_7 : decode cX0_leastWith 7 = .ok (.if_icmp .ge 49, 3) := by decide +kernel
theorem dX0_leastWith_10 : decode cX0_leastWith 10 = .ok (.aload_n 0, 1) := by decide +kernel
theorem dX0_leastWith_11 : decode cX0_leastWith 11 = .ok (.iload_n 1, 1) := by decide +kernel
theorem dX0_leastWith_12 : decode cX0_leastWith 12 = .ok (.iload_n 3, 1) := by decide +kernel
theorem dX0_leastWith_13 : decode cX0_leastWith 13 = .ok (.invokevirtual 46, 3) := by decide +kernel
theorem dX0_leastWith_16 : decode cX0_leastWith 16 = .ok (.iload_n 2, 1) := by decide +kernel
theorem dX0_leastWith_17 : decode cX0_leastWith 17 = .ok (.invokestatic 59, 3) := by decide +kernel
theorem dX0_leastWith_20 : decode cX0_leastWith 20 = .ok (.lxor, 1) := by decide +kernel
theorem dX0_leastWith_21 : decode cX0_leastWith 21 = .ok (.ldc2_w 53, 3) := by decide +kernel
theorem dX0_leastWith_24 : decode cX0_leastWith 24 = .ok (.lxor, 1) := by decide +kernel
theorem dX0_leastWith_25 : decode cX0_leastWith 25 = .ok (.aload_n 0, 1) := by decide +kernel
theorem dX0_leastWith_26 : decode cX0_leastWith 26 = .ok (.invokevirtual 63, 3) := by decide +kernel
theorem dX0_leastWith_29 : decode cX0_leastWith 29 = .ok (.land, 1) := by decide +kernel
theorem dX0_leastWith_30 : decode cX0_leastWith 30 = .ok (.lstore 4, 2) := by decide +kernel
theorem dX0_leastWith_32 : decode cX0_leastWith 32 = .ok (.lload 4, 2) := by decide +kernel
theorem dX0_leastWith_34 : decode cX0_leastWith 34 = .ok (.lconst 0, 1) := by decide +kernel
theorem dX0_leastWith_35 : decode cX0_leastWith 35 = .ok (.lcmp, 1) := by decide +kernel
theorem dX0_leastWith_36 : decode cX0_leastWith 36 = .ok (.ifCond .eq 14, 3) := by decide +kernel
theorem dX0_leastWith_39 : decode cX0_leastWith 39 = .ok (.iload_n 3, 1) := by decide +kernel
theorem dX0_leastWith_40 : decode cX0_leastWith 40 = .ok (.bipush 64, 2) := by decide +kernel
theorem dX0_leastWith_42 : decode cX0_leastWith 42 = .ok (.imul, 1) := by decide +kernel
theorem dX0_leastWith_43 : decode cX0_leastWith 43 = .ok (.lload 4, 2) := by decide +kernel
theorem dX0_leastWith_45 : decode cX0_leastWith 45 = .ok (.invokestatic 67, 3) := by decide +kernel
theorem dX0_leastWith_48 : decode cX0_leastWith 48 = .ok (.iadd, 1) := by decide +kernel
theorem dX0_leastWith_49 : decode cX0_leastWith 49 = .ok (.ireturn, 1) := by decide +kernel
theorem dX0_leastWith_50 : decode cX0_leastWith 50 = .ok (.iinc 3 1, 3) := by decide +kernel
theorem dX0_leastWith_53 : decode cX0_leastWith 53 = .ok (.goto (-51), 3) := by decide +kernel
theorem dX0_leastWith_56 : decode cX0_leastWith 56 = .ok (.iconst (-1), 1) := by decide +kernel
theorem dX0_leastWith_57 : decode cX0_leastWith 57 = .ok (.ireturn, 1) := by decide +kernel
set_option maxRecDepth 20000 in
theorem ggX0_inputWord_X4_allOf : GoodIn wsX0_inputWord wsX4_allOf := goodIn_r _ [3, 4] (by decide +kernel) (by decide +kernel)
set_option maxRecDepth 20000 in
theorem gX0_inputWord_X4_allOf_n59 : GoodIn wsX0_inputWord (wsX4_allOf) := ggX0_inputWord_X4_allOf
theorem dX0_inputWord_0 : decode cX0_inputWord 0 = .ok (.iload_n 0, 1) := by decide +kernel
theorem dX0_inputWord_1 : decode cX0_inputWord 1 = .ok (.bipush 6, 2) := by decide +kernel
theorem dX0_inputWord_3 : decode cX0_inputWord 3 = .ok (.if_icmp .ge 9, 3) := by decide +kernel
theorem dX0_inputWord_6 : decode cX0_inputWord 6 = .ok (.getstatic 71, 3) := by decide +kernel
theorem dX0_inputWord_9 : decode cX0_inputWord 9 = .ok (.iload_n 0, 1) := by decide +kernel
theorem dX0_inputWord_10 : decode cX0_inputWord 10 = .ok (.laload, 1) := by decide +kernel
theorem dX0_inputWord_11 : decode cX0_inputWord 11 = .ok (.lreturn, 1) := by decide +kernel
theorem dX0_inputWord_12 : decode cX0_inputWord 12 = .ok (.iload_n 1, 1) := by decide +kernel
theorem dX0_inputWord_13 : decode cX0_inputWord 13 = .ok (.iload_n 0, 1) := by decide +kernel
theorem dX0_inputWord_14 : decode cX0_inputWord 14 = .ok (.bipush 6, 2) := by decide +kernel
theorem dX0_inputWord_16 : decode cX0_inputWord 16 = .ok (.isub, 1) := by decide +kernel
theorem dX0_inputWord_17 : decode cX0_inputWord 17 = .ok (.ishr, 1) := by decide +kernel
theorem dX0_inputWord_18 : decode cX0_inputWord 18 = .ok (.iconst 1, 1) := by decide +kernel
theorem dX0_inputWord_19 : decode cX0_inputWord 19 = .ok (.iand, 1) := by decide +kernel
theorem dX0_inputWord_20 : decode cX0_inputWord 20 = .ok (.invokestatic 59, 3) := by decide +kernel
theorem dX0_inputWord_23 : decode cX0_inputWord 23 = .ok (.lreturn, 1) := by decide +kernel
theorem dX1_init_0 : decode cX1_init 0 = .ok (.aload_n 0, 1) := by decide +kernel
theorem dX1_init_1 : decode cX1_init 1 = .ok (.invokespecial 3, 3) := by decide +kernel
theorem dX1_init_4 : decode cX1_init 4 = .ok (.aload_n 0, 1) := by decide +kernel
theorem dX1_init_5 : decode cX1_init 5 = .ok (.sipush 600, 3) := by decide +kernel
theorem dX1_init_8 : decode cX1_init 8 = .ok (.newarray .int, 2) := by decide +kernel
theorem dX1_init_10 : decode cX1_init 10 = .ok (.putfield 9, 3) := by decide +kernel
theorem dX1_init_13 : decode cX1_init 13 = .ok (.aload_n 0, 1) := by decide +kernel
theorem dX1_init_14 : decode cX1_init 14 = .ok (.sipush 600, 3) := by decide +kernel
theorem dX1_init_17 : decode cX1_init 17 = .ok (.newarray .int, 2) := by decide +kernel
theorem dX1_init_19 : decode cX1_init 19 = .ok (.putfield 15, 3) := by decide +kernel
theorem dX1_init_22 : decode cX1_init 22 = .ok (.aload_n 0, 1) := by decide +kernel
theorem dX1_init_23 : decode cX1_init 23 = .ok (.sipush 600, 3) := by decide +kernel
theorem dX1_init_26 : decode cX1_init 26 = .ok (.newarray .int, 2) := by decide +kernel
theorem dX1_init_28 : decode cX1_init 28 = .ok (.putfield 18, 3) := by decide +kernel
theorem dX1_init_31 : decode cX1_init 31 = .ok (.aload_n 0, 1) := by decide +kernel
theorem dX1_init_32 : decode cX1_init 32 = .ok (.sipush 600, 3) := by decide +kernel
theorem dX1_init_35 : decode cX1_init 35 = .ok (.newarray .int, 2) := by decide +kernel
theorem dX1_init_37 : decode cX1_init 37 = .ok (.putfield 21, 3) := by decide +kernel
theorem dX1_init_40 : decode cX1_init 40 = .ok (.aload_n 0, 1) := by decide +kernel
theorem dX1_init_41 : decode cX1_init 41 = .ok (.bipush 100, 2) := by decide +kernel
theorem dX1_init_43 : decode cX1_init 43 = .ok (.newarray .int, 2) := by decide +kernel
theorem dX1_init_45 : decode cX1_init 45 = .ok (.putfield 24, 3) := by decide +kernel
theorem dX1_init_48 : decode cX1_init 48 = .ok (.return_, 1) := by decide +kernel
set_option maxRecDepth 20000 in
theorem ggX1_sort_X1_countUses : GoodIn wsX1_sort wsX1_countUses := goodIn_r _ [9, 10, 2, 11, 12, 13, 14, 15, 16, 17, 18, 19, 20, 21, 22, 23, 24, 25, 26, 27, 60, 61, 62, 63, 64, 65, 66, 67, 68, 69, 70, 71, 72, 73] (by decide +kernel) (by decide +kernel)
set_option maxRecDepth 20000 in
theorem gX1_sort_X1_countUses : GoodIn wsX1_sort (wsV RX1 27 RX1 yX1_countUses wsX1_countUses) := goodIn_app (goodIn_of _ (by decide +kernel)) ggX1_sort_X1_countUses
set_option maxRecDepth 20000 in
theorem ggX1_sort_X0_pins : GoodIn wsX1_sort wsX0_pins := goodIn_r _ [17, 18, 19, 20, 21, 66, 67, 68, 69, 70, 71, 72, 73] (by decide +kernel) (by decide +kernel)
set_option maxRecDepth 20000 in
theorem gX1_sort_X0_pins : GoodIn wsX1_sort (wsV RX1 37 RX0 yX0_pins wsX0_pins) := goodIn_app (goodIn_of _ (by decide +kernel)) ggX1_sort_X0_pins
set_option maxRecDepth 20000 in
theorem ggX1_sort_X1_joinGate : GoodIn wsX1_sort wsX1_joinGate := goodIn_r _ [31, 32, 33, 34, 8, 35, 1, 36, 37, 38, 39, 40, 41, 42, 43, 20, 44, 45, 46, 47, 48, 60, 61, 62, 63, 64, 65] (by decide +kernel) (by decide +kernel)
set_option maxRecDepth 20000 in
theorem gX1_sort_X1_joinGate : GoodIn wsX1_sort (wsV RX1 44 RX1 yX1_joinGate wsX1_joinGate) := goodIn_app (goodIn_of _ (by decide +kernel)) ggX1_sort_X1_joinGate
set_option maxRecDepth 20000 in
theorem ggX1_sort_X0_source : GoodIn wsX1_sort wsX0_source := goodIn_r _ [25, 26, 27, 66, 67, 68, 69, 70, 71, 72, 73] (by decide +kernel) (by decide +kernel)
set_option maxRecDepth 20000 in
theorem gX1_sort_X0_source : GoodIn wsX1_sort (wsV RX1 48 RX0 yX0_source wsX0_source) := goodIn_app (goodIn_of _ (by decide +kernel)) ggX1_sort_X0_source
set_option maxRecDepth 20000 in
theorem ggX1_sort_X1_joinSource : GoodIn wsX1_sort wsX1_joinSource := goodIn_r _ [52, 10, 32, 33, 34, 8, 35, 1, 36, 37, 38, 39, 40, 41, 42, 43, 20, 44, 45, 46, 47, 48, 60, 61, 62, 63, 64, 65] (by decide +kernel) (by decide +kernel)
set_option maxRecDepth 20000 in
theorem gX1_sort_X1_joinSource : GoodIn wsX1_sort (wsV RX1 52 RX1 yX1_joinSource wsX1_joinSource) := goodIn_app (goodIn_of _ (by decide +kernel)) ggX1_sort_X1_joinSource
set_option maxRecDepth 20000 in
theorem ggX1_sort_X4_faultOf : GoodIn wsX1_sort wsX4_faultOf := goodIn_r _ [44] (by decide +kernel) (by decide +kernel)
set_option maxRecDepth 20000 in
theorem gX1_sort_X4_faultOf_n58 : GoodIn wsX1_sort (wsX4_faultOf) := ggX1_sort_X4_faultOf
set_option maxRecDepth 20000 in
theorem ggX1_sort_X1_enter : GoodIn wsX1_sort wsX1_enter := goodIn_r _ [56, 57, 4, 58, 59, 45, 46, 47, 8, 48, 1, 60, 61, 62, 63, 64, 65] (by decide +kernel) (by decide +kernel)
set_option maxRecDepth 20000 in
theorem gX1_sort_X1_enter : GoodIn wsX1_sort (wsV RX1 62 RX1 yX1_enter wsX1_enter) := goodIn_app (goodIn_of _ (by decide +kernel)) ggX1_sort_X1_enter
theorem dX1_sort_0 : decode cX1_sort 0 = .ok (.iconst 0, 1) := by decide +kernel
theorem dX1_sort_1 : decode cX1_sort 1 = .ok (.istore_n 2, 1) := by decide +kernel
theorem dX1_sort_2 : decode cX1_sort 2 = .ok (.iload_n 2, 1) := by decide +kernel
theorem dX1_sort_3 : decode cX1_sort 3 = .ok (.sipush 600, 3) := by decide +kernel
theorem dX1_sort_6 : decode cX1_sort 6 = .ok (.if_icmp .ge 16, 3) := by decide +kernel
theorem dX1_sort_9 : decode cX1_sort 9 = .ok (.aload_n 0, 1) := by decide +kernel
theorem dX1_sort_10 : decode cX1_sort 10 = .ok (.getfield 9, 3) := by decide +kernel
theorem dX1_sort_13 : decode cX1_sort 13 = .ok (.iload_n 2, 1) := by decide +kernel
theorem dX1_sort_14 : decode cX1_sort 14 = .ok (.iload_n 2, 1) := by decide +kernel
theorem dX1_sort_15 : decode cX1_sort 15 = .ok (.iastore, 1) := by decide +kernel
theorem dX1_sort_16 : decode cX1_sort 16 = .ok (.iinc 2 1, 3) := by decide +kernel
theorem dX1_sort_19 : decode cX1_sort 19 = .ok (.goto (-17), 3) := by decide +kernel
theorem dX1_sort_22 : decode cX1_sort 22 = .ok (.aload_n 0, 1) := by decide +kernel
theorem dX1_sort_23 : decode cX1_sort 23 = .ok (.aload_n 1, 1) := by decide +kernel
theorem dX1_sort_24 : decode cX1_sort 24 = .ok (.invokevirtual 27, 3) := by decide +kernel
theorem dX1_sort_27 : decode cX1_sort 27 = .ok (.iconst 0, 1) := by decide +kernel
theorem dX1_sort_28 : decode cX1_sort 28 = .ok (.istore_n 2, 1) := by decide +kernel
theorem dX1_sort_29 : decode cX1_sort 29 = .ok (.iload_n 2, 1) := by decide +kernel
theorem dX1_sort_30 : decode cX1_sort 30 = .ok (.aload_n 1, 1) := by decide +kernel
theorem dX1_sort_31 : decode cX1_sort 31 = .ok (.getfield 31, 3) := by decide +kernel
theorem dX1_sort_34 : decode cX1_sort 34 = .ok (.if_icmp .ge 50, 3) := by decide +kernel
theorem dX1_sort_37 : decode cX1_sort 37 = .ok (.iconst 0, 1) := by decide +kernel
theorem dX1_sort_38 : decode cX1_sort 38 = .ok (.istore_n 3, 1) := by decide +kernel
theorem dX1_sort_39 : decode cX1_sort 39 = .ok (.iload_n 3, 1) := by decide +kernel
theorem dX1_sort_40 : decode cX1_sort 40 = .ok (.aload_n 1, 1) := by decide +kernel
theorem dX1_sort_41 : decode cX1_sort 41 = .ok (.iload_n 2, 1) := by decide +kernel
theorem dX1_sort_42 : decode cX1_sort 42 = .ok (.invokevirtual 37, 3) := by decide +kernel
theorem dX1_sort_45 : decode cX1_sort 45 = .ok (.if_icmp .ge 33, 3) := by decide +kernel
theorem dX1_sort_48 : decode cX1_sort 48 = .ok (.aload_n 0, 1) := by decide +kernel
theorem dX1_sort_49 : decode cX1_sort 49 = .ok (.aload_n 1, 1) := by decide +kernel
theorem dX1_sort_50 : decode cX1_sort 50 = .ok (.getfield 41, 3) := by decide +kernel
theorem dX1_sort_53 : decode cX1_sort 53 = .ok (.iload_n 2, 1) := by decide +kernel
theorem dX1_sort_54 : decode cX1_sort 54 = .ok (.iaload, 1) := by decide +kernel
theorem dX1_sort_55 : decode cX1_sort 55 = .ok (.iload_n 2, 1) := by decide +kernel
theorem dX1_sort_56 : decode cX1_sort 56 = .ok (.iload_n 3, 1) := by decide +kernel
theorem dX1_sort_57 : decode cX1_sort 57 = .ok (.invokevirtual 44, 3) := by decide +kernel
theorem dX1_sort_60 : decode cX1_sort 60 = .ok (.aload_n 0, 1) := by decide +kernel
theorem dX1_sort_61 : decode cX1_sort 61 = .ok (.aload_n 1, 1) := by decide +kernel
theorem dX1_sort_62 : decode cX1_sort 62 = .ok (.iload_n 2, 1) := by decide +kernel
theorem dX1_sort_63 : decode cX1_sort 63 = .ok (.iload_n 3, 1) := by decide +kernel
theorem dX1_sort_64 : decode cX1_sort 64 = .ok (.invokevirtual 48, 3) := by decide +kernel
theorem dX1_sort_67 : decode cX1_sort 67 = .ok (.iload_n 2, 1) := by decide +kernel
theorem dX1_sort_68 : decode cX1_sort 68 = .ok (.iload_n 3, 1) := by decide +kernel
theorem dX1_sort_69 : decode cX1_sort 69 = .ok (.invokevirtual 52, 3) := by decide +kernel
theorem dX1_sort_72 : decode cX1_sort 72 = .ok (.iinc 3 1, 3) := by decide +kernel
theorem dX1_sort_75 : decode cX1_sort 75 = .ok (.goto (-36), 3) := by decide +kernel
theorem dX1_sort_78 : decode cX1_sort 78 = .ok (.iinc 2 1, 3) := by decide +kernel
theorem dX1_sort_81 : decode cX1_sort 81 = .ok (.goto (-52), 3) := by decide +kernel
theorem dX1_sort_84 : decode cX1_sort 84 = .ok (.aload_n 0, 1) := by decide +kernel
theorem dX1_sort_85 : decode cX1_sort 85 = .ok (.iconst 0, 1) := by decide +kernel
theorem dX1_sort_86 : decode cX1_sort 86 = .ok (.putfield 55, 3) := by decide +kernel
theorem dX1_sort_89 : decode cX1_sort 89 = .ok (.iconst 0, 1) := by decide +kernel
theorem dX1_sort_90 : decode cX1_sort 90 = .ok (.istore_n 2, 1) := by decide +kernel
theorem dX1_sort_91 : decode cX1_sort 91 = .ok (.iload_n 2, 1) := by decide +kernel
theorem dX1_sort_92 : decode cX1_sort 92 = .ok (.aload_n 1, 1) := by decide +kernel
theorem dX1_sort_93 : decode cX1_sort 93 = .ok (.getfield 31, 3) := by decide +kernel
theorem dX1_sort_96 : decode cX1_sort 96 = .ok (.if_icmp .ge 46, 3) := by decide +kernel
theorem dX1_sort_99 : decode cX1_sort 99 = .ok (.iconst (-1), 1) := by decide +kernel
theorem dX1_sort_100 : decode cX1_sort 100 = .ok (.istore_n 3, 1) := by decide +kernel
theorem dX1_sort_101 : decode cX1_sort 101 = .ok (.iload_n 3, 1) := by decide +kernel
theorem dX1_sort_102 : decode cX1_sort 102 = .ok (.aload_n 1, 1) := by decide +kernel
theorem dX1_sort_103 : decode cX1_sort 103 = .ok (.iload_n 2, 1) := by decide +kernel
theorem dX1_sort_104 : decode cX1_sort 104 = .ok (.invokevirtual 37, 3) := by decide +kernel
theorem dX1_sort_107 : decode cX1_sort 107 = .ok (.if_icmp .ge 29, 3) := by decide +kernel
theorem dX1_sort_110 : decode cX1_sort 110 = .ok (.aload_n 0, 1) := by decide +kernel
theorem dX1_sort_111 : decode cX1_sort 111 = .ok (.iload_n 2, 1) := by decide +kernel
theorem dX1_sort_112 : decode cX1_sort 112 = .ok (.iload_n 3, 1) := by decide +kernel
theorem dX1_sort_113 : decode cX1_sort 113 = .ok (.iconst 0, 1) := by decide +kernel
theorem dX1_sort_114 : decode cX1_sort 114 = .ok (.invokestatic 58, 3) := by decide +kernel
theorem dX1_sort_117 : decode cX1_sort 117 = .ok (.invokevirtual 62, 3) := by decide +kernel
theorem dX1_sort_120 : decode cX1_sort 120 = .ok (.aload_n 0, 1) := by decide +kernel
theorem dX1_sort_121 : decode cX1_sort 121 = .ok (.iload_n 2, 1) := by decide +kernel
theorem dX1_sort_122 : decode cX1_sort 122 = .ok (.iload_n 3, 1) := by decide +kernel
theorem dX1_sort_123 : decode cX1_sort 123 = .ok (.iconst 1, 1) := by decide +kernel
theorem dX1_sort_124 : decode cX1_sort 124 = .ok (.invokestatic 58, 3) := by decide +kernel
theorem dX1_sort_127 : decode cX1_sort 127 = .ok (.invokevirtual 62, 3) := by decide +kernel
theorem dX1_sort_130 : decode cX1_sort 130 = .ok (.iinc 3 1, 3) := by decide +kernel
theorem dX1_sort_133 : decode cX1_sort 133 = .ok (.goto (-32), 3) := by decide +kernel
theorem dX1_sort_136 : decode cX1_sort 136 = .ok (.iinc 2 1, 3) := by decide +kernel
theorem dX1_sort_139 : decode cX1_sort 139 = .ok (.goto (-48), 3) := by decide +kernel
theorem dX1_sort_142 : decode cX1_sort 142 = .ok (.return_, 1) := by decide +kernel
set_option maxRecDepth 20000 in
theorem ggX1_countUses_X0_pins : GoodIn wsX1_countUses wsX0_pins := goodIn_r _ [9, 10, 11, 12, 13, 26, 27, 28, 29, 30, 31, 32, 33] (by decide +kernel) (by decide +kernel)
set_option maxRecDepth 20000 in
theorem gX1_countUses_X0_pins : GoodIn wsX1_countUses (wsV RX1 37 RX0 yX0_pins wsX0_pins) := goodIn_app (goodIn_of _ (by decide +kernel)) ggX1_countUses_X0_pins
set_option maxRecDepth 20000 in
theorem ggX1_countUses_X0_source : GoodIn wsX1_countUses wsX0_source := goodIn_r _ [17, 18, 19, 26, 27, 28, 29, 30, 31, 32, 33] (by decide +kernel) (by decide +kernel)
set_option maxRecDepth 20000 in
theorem gX1_countUses_X0_source : GoodIn wsX1_countUses (wsV RX1 48 RX0 yX0_source wsX0_source) := goodIn_app (goodIn_of _ (by decide +kernel)) ggX1_countUses_X0_source
theorem dX1_countUses_0 : decode cX1_countUses 0 = .ok (.iconst 0, 1) := by decide +kernel
theorem dX1_countUses_1 : decode cX1_countUses 1 = .ok (.istore_n 2, 1) := by decide +kernel
theorem dX1_countUses_2 : decode cX1_countUses 2 = .ok (.iload_n 2, 1) := by decide +kernel
theorem dX1_countUses_3 : decode cX1_countUses 3 = .ok (.bipush 100, 2) := by decide +kernel
theorem dX1_countUses_5 : decode cX1_countUses 5 = .ok (.if_icmp .ge 16, 3) := by decide +kernel
theorem dX1_countUses_8 : decode cX1_countUses 8 = .ok (.aload_n 0, 1) := by decide +kernel
theorem dX1_countUses_9 : decode cX1_countUses 9 = .ok (.getfield 24, 3) := by decide +kernel
theorem dX1_countUses_12 : decode cX1_countUses 12 = .ok (.iload_n 2, 1) := by decide +kernel
theorem dX1_countUses_13 : decode cX1_countUses 13 = .ok (.iconst 0, 1) := by decide +kernel
theorem dX1_countUses_14 : decode cX1_countUses 14 = .ok (.iastore, 1) := by decide +kernel
theorem dX1_countUses_15 : decode cX1_countUses 15 = .ok (.iinc 2 1, 3) := by decide +kernel
theorem dX1_countUses_18 : decode cX1_countUses 18 = .ok (.goto (-16), 3) := by decide +kernel
theorem dX1_countUses_21 : decode cX1_countUses 21 = .ok (.iconst 0, 1) := by decide +kernel
theorem dX1_countUses_22 : decode cX1_countUses 22 = .ok (.istore_n 2, 1) := by decide +kernel
theorem dX1_countUses_23 : decode cX1_countUses 23 = .ok (.iload_n 2, 1) := by decide +kernel
theorem dX1_countUses_24 : decode cX1_countUses 24 = .ok (.aload_n 1, 1) := by decide +kernel
theorem dX1_countUses_25 : decode cX1_countUses 25 = .ok (.getfield 31, 3) := by decide +kernel
theorem dX1_countUses_28 : decode cX1_countUses 28 = .ok (.if_icmp .ge 41, 3) := by decide +kernel
theorem dX1_countUses_31 : decode cX1_countUses 31 = .ok (.iconst 0, 1) := by decide +kernel
theorem dX1_countUses_32 : decode cX1_countUses 32 = .ok (.istore_n 3, 1) := by decide +kernel
theorem dX1_countUses_33 : decode cX1_countUses 33 = .ok (.iload_n 3, 1) := by decide +kernel
theorem dX1_countUses_34 : decode cX1_countUses 34 = .ok (.aload_n 1, 1) := by decide +kernel
theorem dX1_countUses_35 : decode cX1_countUses 35 = .ok (.iload_n 2, 1) := by decide +kernel
theorem dX1_countUses_36 : decode cX1_countUses 36 = .ok (.invokevirtual 37, 3) := by decide +kernel
theorem dX1_countUses_39 : decode cX1_countUses 39 = .ok (.if_icmp .ge 24, 3) := by decide +kernel
theorem dX1_countUses_42 : decode cX1_countUses 42 = .ok (.aload_n 0, 1) := by decide +kernel
theorem dX1_countUses_43 : decode cX1_countUses 43 = .ok (.getfield 24, 3) := by decide +kernel
theorem dX1_countUses_46 : decode cX1_countUses 46 = .ok (.aload_n 1, 1) := by decide +kernel
theorem dX1_countUses_47 : decode cX1_countUses 47 = .ok (.iload_n 2, 1) := by decide +kernel
theorem dX1_countUses_48 : decode cX1_countUses 48 = .ok (.iload_n 3, 1) := by decide +kernel
theorem dX1_countUses_49 : decode cX1_countUses 49 = .ok (.invokevirtual 48, 3) := by decide +kernel
theorem dX1_countUses_52 : decode cX1_countUses 52 = .ok (.dup2, 1) := by decide +kernel
theorem dX1_countUses_53 : decode cX1_countUses 53 = .ok (.iaload, 1) := by decide +kernel
theorem dX1_countUses_54 : decode cX1_countUses 54 = .ok (.iconst 1, 1) := by decide +kernel
theorem dX1_countUses_55 : decode cX1_countUses 55 = .ok (.iadd, 1) := by decide +kernel
theorem dX1_countUses_56 : decode cX1_countUses 56 = .ok (.iastore, 1) := by decide +kernel
theorem dX1_countUses_57 : decode cX1_countUses 57 = .ok (.iinc 3 1, 3) := by decide +kernel
theorem dX1_countUses_60 : decode cX1_countUses 60 = .ok (.goto (-27), 3) := by decide +kernel
theorem dX1_countUses_63 : decode cX1_countUses 63 = .ok (.iinc 2 1, 3) := by decide +kernel
theorem dX1_countUses_66 : decode cX1_countUses 66 = .ok (.goto (-43), 3) := by decide +kernel
theorem dX1_countUses_69 : decode cX1_countUses 69 = .ok (.iconst 0, 1) := by decide +kernel
theorem dX1_countUses_70 : decode cX1_countUses 70 = .ok (.istore_n 2, 1) := by decide +kernel
theorem dX1_countUses_71 : decode cX1_countUses 71 = .ok (.iload_n 2, 1) := by decide +kernel
theorem dX1_countUses_72 : decode cX1_countUses 72 = .ok (.aload_n 1, 1) := by decide +kernel
theorem dX1_countUses_73 : decode cX1_countUses 73 = .ok (.getfield 66, 3) := by decide +kernel
theorem dX1_countUses_76 : decode cX1_countUses 76 = .ok (.if_icmp .ge 24, 3) := by decide +kernel
theorem dX1_countUses_79 : decode cX1_countUses 79 = .ok (.aload_n 0, 1) := by decide +kernel
theorem dX1_countUses_80 : decode cX1_countUses 80 = .ok (.getfield 24, 3) := by decide +kernel
theorem dX1_countUses_83 : decode cX1_countUses 83 = .ok (.aload_n 1, 1) := by decide +kernel
theorem dX1_countUses_84 : decode cX1_countUses 84 = .ok (.getfield 69, 3) := by decide +kernel
theorem dX1_countUses_87 : decode cX1_countUses 87 = .ok (.iload_n 2, 1) := by decide +kernel
theorem dX1_countUses_88 : decode cX1_countUses 88 = .ok (.iaload, 1) := by decide +kernel
theorem dX1_countUses_89 : decode cX1_countUses 89 = .ok (.dup2, 1) := by decide +kernel
theorem dX1_countUses_90 : decode cX1_countUses 90 = .ok (.iaload, 1) := by decide +kernel
theorem dX1_countUses_91 : decode cX1_countUses 91 = .ok (.iconst 1, 1) := by decide +kernel
theorem dX1_countUses_92 : decode cX1_countUses 92 = .ok (.iadd, 1) := by decide +kernel
theorem dX1_countUses_93 : decode cX1_countUses 93 = .ok (.iastore, 1) := by decide +kernel
theorem dX1_countUses_94 : decode cX1_countUses 94 = .ok (.iinc 2 1, 3) := by decide +kernel
theorem dX1_countUses_97 : decode cX1_countUses 97 = .ok (.goto (-26), 3) := by decide +kernel
theorem dX1_countUses_100 : decode cX1_countUses 100 = .ok (.return_, 1) := by decide +kernel
set_option maxRecDepth 20000 in
theorem ggX1_joinGate_X1_joinLines : GoodIn wsX1_joinGate wsX1_joinLines := goodIn_r _ [5, 6, 7, 8, 9, 10, 11, 12, 13, 14, 15, 16, 17, 18, 19, 4, 20, 21, 22, 23, 24, 25, 26] (by decide +kernel) (by decide +kernel)
set_option maxRecDepth 20000 in
theorem gX1_joinGate_X1_joinLines : GoodIn wsX1_joinGate (wsV RX1 72 RX1 yX1_joinLines wsX1_joinLines) := goodIn_app (goodIn_of _ (by decide +kernel)) ggX1_joinGate_X1_joinLines
theorem dX1_joinGate_0 : decode cX1_joinGate 0 = .ok (.iload_n 1, 1) := by decide +kernel
theorem dX1_joinGate_1 : decode cX1_joinGate 1 = .ok (.tableswitch 141 0 6 #[43, 56, 141, 69, 82, 95, 118], 43) := by decide +kernel
theorem dX1_joinGate_44 : decode cX1_joinGate 44 = .ok (.aload_n 0, 1) := by decide +kernel
theorem dX1_joinGate_45 : decode cX1_joinGate 45 = .ok (.iload_n 2, 1) := by decide +kernel
theorem dX1_joinGate_46 : decode cX1_joinGate 46 = .ok (.iload_n 3, 1) := by decide +kernel
theorem dX1_joinGate_47 : decode cX1_joinGate 47 = .ok (.iconst 0, 1) := by decide +kernel
theorem dX1_joinGate_48 : decode cX1_joinGate 48 = .ok (.iload_n 2, 1) := by decide +kernel
theorem dX1_joinGate_49 : decode cX1_joinGate 49 = .ok (.iconst (-1), 1) := by decide +kernel
theorem dX1_joinGate_50 : decode cX1_joinGate 50 = .ok (.iconst 0, 1) := by decide +kernel
theorem dX1_joinGate_51 : decode cX1_joinGate 51 = .ok (.invokevirtual 72, 3) := by decide +kernel
theorem dX1_joinGate_54 : decode cX1_joinGate 54 = .ok (.goto 88, 3) := by decide +kernel
theorem dX1_joinGate_57 : decode cX1_joinGate 57 = .ok (.aload_n 0, 1) := by decide +kernel
theorem dX1_joinGate_58 : decode cX1_joinGate 58 = .ok (.iload_n 2, 1) := by decide +kernel
theorem dX1_joinGate_59 : decode cX1_joinGate 59 = .ok (.iload_n 3, 1) := by decide +kernel
theorem dX1_joinGate_60 : decode cX1_joinGate 60 = .ok (.iconst 1, 1) := by decide +kernel
theorem dX1_joinGate_61 : decode cX1_joinGate 61 = .ok (.iload_n 2, 1) := by decide +kernel
theorem dX1_joinGate_62 : decode cX1_joinGate 62 = .ok (.iconst (-1), 1) := by decide +kernel
theorem dX1_joinGate_63 : decode cX1_joinGate 63 = .ok (.iconst 1, 1) := by decide +kernel
theorem dX1_joinGate_64 : decode cX1_joinGate 64 = .ok (.invokevirtual 72, 3) := by decide +kernel
theorem dX1_joinGate_67 : decode cX1_joinGate 67 = .ok (.goto 75, 3) := by decide +kernel
theorem dX1_joinGate_70 : decode cX1_joinGate 70 = .ok (.aload_n 0, 1) := by decide +kernel
theorem dX1_joinGate_71 : decode cX1_joinGate 71 = .ok (.iload_n 2, 1) := by decide +kernel
theorem dX1_joinGate_72 : decode cX1_joinGate 72 = .ok (.iload_n 3, 1) := by decide +kernel
theorem dX1_joinGate_73 : decode cX1_joinGate 73 = .ok (.iconst 0, 1) := by decide +kernel
theorem dX1_joinGate_74 : decode cX1_joinGate 74 = .ok (.iload_n 2, 1) := by decide +kernel
theorem dX1_joinGate_75 : decode cX1_joinGate 75 = .ok (.iconst (-1), 1) := by decide +kernel
theorem dX1_joinGate_76 : decode cX1_joinGate 76 = .ok (.iconst 1, 1) := by decide +kernel
theorem dX1_joinGate_77 : decode cX1_joinGate 77 = .ok (.invokevirtual 72, 3) := by decide +kernel
theorem dX1_joinGate_80 : decode cX1_joinGate 80 = .ok (.goto 62, 3) := by decide +kernel
theorem dX1_joinGate_83 : decode cX1_joinGate 83 = .ok (.aload_n 0, 1) := by decide +kernel
theorem dX1_joinGate_84 : decode cX1_joinGate 84 = .ok (.iload_n 2, 1) := by decide +kernel
theorem dX1_joinGate_85 : decode cX1_joinGate 85 = .ok (.iload_n 3, 1) := by decide +kernel
theorem dX1_joinGate_86 : decode cX1_joinGate 86 = .ok (.iconst 1, 1) := by decide +kernel
theorem dX1_joinGate_87 : decode cX1_joinGate 87 = .ok (.iload_n 2, 1) := by decide +kernel
theorem dX1_joinGate_88 : decode cX1_joinGate 88 = .ok (.iconst (-1), 1) := by decide +kernel
theorem dX1_joinGate_89 : decode cX1_joinGate 89 = .ok (.iconst 0, 1) := by decide +kernel
theorem dX1_joinGate_90 : decode cX1_joinGate 90 = .ok (.invokevirtual 72, 3) := by decide +kernel
theorem dX1_joinGate_93 : decode cX1_joinGate 93 = .ok (.goto 49, 3) := by decide +kernel
theorem dX1_joinGate_96 : decode cX1_joinGate 96 = .ok (.aload_n 0, 1) := by decide +kernel
theorem dX1_joinGate_97 : decode cX1_joinGate 97 = .ok (.iload_n 2, 1) := by decide +kernel
theorem dX1_joinGate_98 : decode cX1_joinGate 98 = .ok (.iload_n 3, 1) := by decide +kernel
theorem dX1_joinGate_99 : decode cX1_joinGate 99 = .ok (.iconst 0, 1) := by decide +kernel
theorem dX1_joinGate_100 : decode cX1_joinGate 100 = .ok (.iload_n 2, 1) := by decide +kernel
theorem dX1_joinGate_101 : decode cX1_joinGate 101 = .ok (.iconst (-1), 1) := by decide +kernel
theorem dX1_joinGate_102 : decode cX1_joinGate 102 = .ok (.iconst 1, 1) := by decide +kernel
theorem dX1_joinGate_103 : decode cX1_joinGate 103 = .ok (.invokevirtual 72, 3) := by decide +kernel
theorem dX1_joinGate_106 : decode cX1_joinGate 106 = .ok (.aload_n 0, 1) := by decide +kernel
theorem dX1_joinGate_107 : decode cX1_joinGate 107 = .ok (.iload_n 2, 1) := by decide +kernel
theorem dX1_joinGate_108 : decode cX1_joinGate 108 = .ok (.iload_n 3, 1) := by decide +kernel
theorem dX1_joinGate_109 : decode cX1_joinGate 109 = .ok (.iconst 1, 1) := by decide +kernel
theorem dX1_joinGate_110 : decode cX1_joinGate 110 = .ok (.iload_n 2, 1) := by decide +kernel
theorem dX1_joinGate_111 : decode cX1_joinGate 111 = .ok (.iconst (-1), 1) := by decide +kernel
theorem dX1_joinGate_112 : decode cX1_joinGate 112 = .ok (.iconst 0, 1) := by decide +kernel
theorem dX1_joinGate_113 : decode cX1_joinGate 113 = .ok (.invokevirtual 72, 3) := by decide +kernel
theorem dX1_joinGate_116 : decode cX1_joinGate 116 = .ok (.goto 26, 3) := by decide +kernel
theorem dX1_joinGate_119 : decode cX1_joinGate 119 = .ok (.aload_n 0, 1) := by decide +kernel
theorem dX1_joinGate_120 : decode cX1_joinGate 120 = .ok (.iload_n 2, 1) := by decide +kernel
theorem dX1_joinGate_121 : decode cX1_joinGate 121 = .ok (.iload_n 3, 1) := by decide +kernel
theorem dX1_joinGate_122 : decode cX1_joinGate 122 = .ok (.iconst 0, 1) := by decide +kernel
theorem dX1_joinGate_123 : decode cX1_joinGate 123 = .ok (.iload_n 2, 1) := by decide +kernel
theorem dX1_joinGate_124 : decode cX1_joinGate 124 = .ok (.iconst (-1), 1) := by decide +kernel
theorem dX1_joinGate_125 : decode cX1_joinGate 125 = .ok (.iconst 0, 1) := by decide +kernel
theorem dX1_joinGate_126 : decode cX1_joinGate 126 = .ok (.invokevirtual 72, 3) := by decide +kernel
theorem dX1_joinGate_129 : decode cX1_joinGate 129 = .ok (.aload_n 0, 1) := by decide +kernel
theorem dX1_joinGate_130 : decode cX1_joinGate 130 = .ok (.iload_n 2, 1) := by decide +kernel
theorem dX1_joinGate_131 : decode cX1_joinGate 131 = .ok (.iload_n 3, 1) := by decide +kernel
theorem dX1_joinGate_132 : decode cX1_joinGate 132 = .ok (.iconst 1, 1) := by decide +kernel
theorem dX1_joinGate_133 : decode cX1_joinGate 133 = .ok (.iload_n 2, 1) := by decide +kernel
theorem dX1_joinGate_134 : decode cX1_joinGate 134 = .ok (.iconst (-1), 1) := by decide +kernel
theorem dX1_joinGate_135 : decode cX1_joinGate 135 = .ok (.iconst 1, 1) := by decide +kernel
theorem dX1_joinGate_136 : decode cX1_joinGate 136 = .ok (.invokevirtual 72, 3) := by decide +kernel
theorem dX1_joinGate_139 : decode cX1_joinGate 139 = .ok (.goto 3, 3) := by decide +kernel
theorem dX1_joinGate_142 : decode cX1_joinGate 142 = .ok (.return_, 1) := by decide +kernel
set_option maxRecDepth 20000 in
theorem ggX1_joinSource_X1_joinLines : GoodIn wsX1_joinSource wsX1_joinLines := goodIn_r _ [6, 7, 8, 9, 10, 11, 12, 13, 14, 15, 16, 17, 18, 19, 20, 5, 21, 22, 23, 24, 25, 26, 27] (by decide +kernel) (by decide +kernel)
set_option maxRecDepth 20000 in
theorem gX1_joinSource_X1_joinLines : GoodIn wsX1_joinSource (wsV RX1 72 RX1 yX1_joinLines wsX1_joinLines) := goodIn_app (goodIn_of _ (by decide +kernel)) ggX1_joinSource_X1_joinLines
theorem dX1_joinSource_0 : decode cX1_joinSource 0 = .ok (.aload_n 0, 1) := by decide +kernel
theorem dX1_joinSource_1 : decode cX1_joinSource 1 = .ok (.getfield 24, 3) := by decide +kernel
theorem dX1_joinSource_4 : decode cX1_joinSource 4 = .ok (.iload_n 1, 1) := by decide +kernel
theorem dX1_joinSource_5 : decode cX1_joinSource 5 = .ok (.iaload, 1) := by decide +kernel
theorem dX1_joinSource_6 : decode cX1_joinSource 6 = .ok (.iconst 1, 1) := by decide +kernel
theorem dX1_joinSource_7 : decode cX1_joinSource 7 = .ok (.if_icmp .ne 23, 3) := by decide +kernel
theorem dX1_joinSource_10 : decode cX1_joinSource 10 = .ok (.aload_n 0, 1) := by decide +kernel
theorem dX1_joinSource_11 : decode cX1_joinSource 11 = .ok (.iload_n 1, 1) := by decide +kernel
theorem dX1_joinSource_12 : decode cX1_joinSource 12 = .ok (.iconst (-1), 1) := by decide +kernel
theorem dX1_joinSource_13 : decode cX1_joinSource 13 = .ok (.iconst 0, 1) := by decide +kernel
theorem dX1_joinSource_14 : decode cX1_joinSource 14 = .ok (.iload_n 2, 1) := by decide +kernel
theorem dX1_joinSource_15 : decode cX1_joinSource 15 = .ok (.iload_n 3, 1) := by decide +kernel
theorem dX1_joinSource_16 : decode cX1_joinSource 16 = .ok (.iconst 0, 1) := by decide +kernel
theorem dX1_joinSource_17 : decode cX1_joinSource 17 = .ok (.invokevirtual 72, 3) := by decide +kernel
theorem dX1_joinSource_20 : decode cX1_joinSource 20 = .ok (.aload_n 0, 1) := by decide +kernel
theorem dX1_joinSource_21 : decode cX1_joinSource 21 = .ok (.iload_n 1, 1) := by decide +kernel
theorem dX1_joinSource_22 : decode cX1_joinSource 22 = .ok (.iconst (-1), 1) := by decide +kernel
theorem dX1_joinSource_23 : decode cX1_joinSource 23 = .ok (.iconst 1, 1) := by decide +kernel
theorem dX1_joinSource_24 : decode cX1_joinSource 24 = .ok (.iload_n 2, 1) := by decide +kernel
theorem dX1_joinSource_25 : decode cX1_joinSource 25 = .ok (.iload_n 3, 1) := by decide +kernel
theorem dX1_joinSource_26 : decode cX1_joinSource 26 = .ok (.iconst 1, 1) := by decide +kernel
theorem dX1_joinSource_27 : decode cX1_joinSource 27 = .ok (.invokevirtual 72, 3) := by decide +kernel
theorem dX1_joinSource_30 : decode cX1_joinSource 30 = .ok (.return_, 1) := by decide +kernel
set_option maxRecDepth 20000 in
theorem ggX1_joinLines_X4_faultOf : GoodIn wsX1_joinLines wsX4_faultOf := goodIn_r _ [11] (by decide +kernel) (by decide +kernel)
set_option maxRecDepth 20000 in
theorem gX1_joinLines_X4_faultOf_n58 : GoodIn wsX1_joinLines (wsX4_faultOf) := ggX1_joinLines_X4_faultOf
set_option maxRecDepth 20000 in
theorem ggX1_joinLines_X1_root : GoodIn wsX1_joinLines wsX1_root := goodIn_r _ [16, 1, 17, 18, 19, 20, 21, 22] (by decide +kernel) (by decide +kernel)
set_option maxRecDepth 20000 in
theorem gX1_joinLines_X1_root : GoodIn wsX1_joinLines (wsV RX1 76 RX1 yX1_root wsX1_root) := goodIn_app (goodIn_of _ (by decide +kernel)) ggX1_joinLines_X1_root
theorem dX1_joinLines_0 : decode cX1_joinLines 0 = .ok (.aload_n 0, 1) := by decide +kernel
theorem dX1_joinLines_1 : decode cX1_joinLines 1 = .ok (.iload_n 1, 1) := by decide +kernel
theorem dX1_joinLines_2 : decode cX1_joinLines 2 = .ok (.iload_n 2, 1) := by decide +kernel
theorem dX1_joinLines_3 : decode cX1_joinLines 3 = .ok (.iload_n 3, 1) := by decide +kernel
theorem dX1_joinLines_4 : decode cX1_joinLines 4 = .ok (.invokestatic 58, 3) := by decide +kernel
theorem dX1_joinLines_7 : decode cX1_joinLines 7 = .ok (.invokevirtual 76, 3) := by decide +kernel
theorem dX1_joinLines_10 : decode cX1_joinLines 10 = .ok (.istore 7, 2) := by decide +kernel
theorem dX1_joinLines_12 : decode cX1_joinLines 12 = .ok (.aload_n 0, 1) := by decide +kernel
theorem dX1_joinLines_13 : decode cX1_joinLines 13 = .ok (.iload 4, 2) := by decide +kernel
theorem dX1_joinLines_15 : decode cX1_joinLines 15 = .ok (.iload 5, 2) := by decide +kernel
theorem dX1_joinLines_17 : decode cX1_joinLines 17 = .ok (.iload 6, 2) := by decide +kernel
theorem dX1_joinLines_19 : decode cX1_joinLines 19 = .ok (.invokestatic 58, 3) := by decide +kernel
theorem dX1_joinLines_22 : decode cX1_joinLines 22 = .ok (.invokevirtual 76, 3) := by decide +kernel
theorem dX1_joinLines_25 : decode cX1_joinLines 25 = .ok (.istore 8, 2) := by decide +kernel
theorem dX1_joinLines_27 : decode cX1_joinLines 27 = .ok (.aload_n 0, 1) := by decide +kernel
theorem dX1_joinLines_28 : decode cX1_joinLines 28 = .ok (.getfield 9, 3) := by decide +kernel
theorem dX1_joinLines_31 : decode cX1_joinLines 31 = .ok (.iload 7, 2) := by decide +kernel
theorem dX1_joinLines_33 : decode cX1_joinLines 33 = .ok (.iload 8, 2) := by decide +kernel
theorem dX1_joinLines_35 : decode cX1_joinLines 35 = .ok (.invokestatic 79, 3) := by decide +kernel
theorem dX1_joinLines_38 : decode cX1_joinLines 38 = .ok (.iload 7, 2) := by decide +kernel
theorem dX1_joinLines_40 : decode cX1_joinLines 40 = .ok (.iload 8, 2) := by decide +kernel
theorem dX1_joinLines_42 : decode cX1_joinLines 42 = .ok (.invokestatic 84, 3) := by decide +kernel
theorem dX1_joinLines_45 : decode cX1_joinLines 45 = .ok (.iastore, 1) := by decide +kernel
theorem dX1_joinLines_46 : decode cX1_joinLines 46 = .ok (.return_, 1) := by decide +kernel
theorem dX1_root_0 : decode cX1_root 0 = .ok (.iload_n 1, 1) := by decide +kernel
theorem dX1_root_1 : decode cX1_root 1 = .ok (.istore_n 2, 1) := by decide +kernel
theorem dX1_root_2 : decode cX1_root 2 = .ok (.iconst 0, 1) := by decide +kernel
theorem dX1_root_3 : decode cX1_root 3 = .ok (.istore_n 3, 1) := by decide +kernel
theorem dX1_root_4 : decode cX1_root 4 = .ok (.iload_n 3, 1) := by decide +kernel
theorem dX1_root_5 : decode cX1_root 5 = .ok (.sipush 600, 3) := by decide +kernel
theorem dX1_root_8 : decode cX1_root 8 = .ok (.if_icmp .ge 26, 3) := by decide +kernel
theorem dX1_root_11 : decode cX1_root 11 = .ok (.aload_n 0, 1) := by decide +kernel
theorem dX1_root_12 : decode cX1_root 12 = .ok (.getfield 9, 3) := by decide +kernel
theorem dX1_root_15 : decode cX1_root 15 = .ok (.iload_n 2, 1) := by decide +kernel
theorem dX1_root_16 : decode cX1_root 16 = .ok (.iaload, 1) := by decide +kernel
theorem dX1_root_17 : decode cX1_root 17 = .ok (.iload_n 2, 1) := by decide +kernel
theorem dX1_root_18 : decode cX1_root 18 = .ok (.if_icmp .eq 16, 3) := by decide +kernel
theorem dX1_root_21 : decode cX1_root 21 = .ok (.aload_n 0, 1) := by decide +kernel
theorem dX1_root_22 : decode cX1_root 22 = .ok (.getfield 9, 3) := by decide +kernel
theorem dX1_root_25 : decode cX1_root 25 = .ok (.iload_n 2, 1) := by decide +kernel
theorem dX1_root_26 : decode cX1_root 26 = .ok (.iaload, 1) := by decide +kernel
theorem dX1_root_27 : decode cX1_root 27 = .ok (.istore_n 2, 1) := by decide +kernel
theorem dX1_root_28 : decode cX1_root 28 = .ok (.iinc 3 1, 3) := by decide +kernel
theorem dX1_root_31 : decode cX1_root 31 = .ok (.goto (-27), 3) := by decide +kernel
theorem dX1_root_34 : decode cX1_root 34 = .ok (.iload_n 2, 1) := by decide +kernel
theorem dX1_root_35 : decode cX1_root 35 = .ok (.ireturn, 1) := by decide +kernel
set_option maxRecDepth 20000 in
theorem ggX1_enter_X1_root : GoodIn wsX1_enter wsX1_root := goodIn_r _ [9, 10, 11, 12, 13, 14, 15, 16] (by decide +kernel) (by decide +kernel)
set_option maxRecDepth 20000 in
theorem gX1_enter_X1_root : GoodIn wsX1_enter (wsV RX1 76 RX1 yX1_root wsX1_root) := goodIn_app (goodIn_of _ (by decide +kernel)) ggX1_enter_X1_root
theorem dX1_enter_0 : decode cX1_enter 0 = .ok (.aload_n 0, 1) := by decide +kernel
theorem dX1_enter_1 : decode cX1_enter 1 = .ok (.iload_n 1, 1) := by decide +kernel
theorem dX1_enter_2 : decode cX1_enter 2 = .ok (.invokevirtual 76, 3) := by decide +kernel
theorem dX1_enter_5 : decode cX1_enter 5 = .ok (.istore_n 2, 1) := by decide +kernel
theorem dX1_enter_6 : decode cX1_enter 6 = .ok (.iload_n 2, 1) := by decide +kernel
theorem dX1_enter_7 : decode cX1_enter 7 = .ok (.iload_n 1, 1) := by decide +kernel
theorem dX1_enter_8 : decode cX1_enter 8 = .ok (.if_icmp .ne 43, 3) := by decide +kernel
theorem dX1_enter_11 : decode cX1_enter 11 = .ok (.aload_n 0, 1) := by decide +kernel
theorem dX1_enter_12 : decode cX1_enter 12 = .ok (.getfield 15, 3) := by decide +kernel
theorem dX1_enter_15 : decode cX1_enter 15 = .ok (.iload_n 1, 1) := by decide +kernel
theorem dX1_enter_16 : decode cX1_enter 16 = .ok (.aload_n 0, 1) := by decide +kernel
theorem dX1_enter_17 : decode cX1_enter 17 = .ok (.getfield 55, 3) := by decide +kernel
theorem dX1_enter_20 : decode cX1_enter 20 = .ok (.iastore, 1) := by decide +kernel
theorem dX1_enter_21 : decode cX1_enter 21 = .ok (.aload_n 0, 1) := by decide +kernel
theorem dX1_enter_22 : decode cX1_enter 22 = .ok (.getfield 18, 3) := by decide +kernel
theorem dX1_enter_25 : decode cX1_enter 25 = .ok (.aload_n 0, 1) := by decide +kernel
theorem dX1_enter_26 : decode cX1_enter 26 = .ok (.getfield 55, 3) := by decide +kernel
theorem dX1_enter_29 : decode cX1_enter 29 = .ok (.iload_n 1, 1) := by decide +kernel
theorem dX1_enter_30 : decode cX1_enter 30 = .ok (.iastore, 1) := by decide +kernel
theorem dX1_enter_31 : decode cX1_enter 31 = .ok (.aload_n 0, 1) := by decide +kernel
theorem dX1_enter_32 : decode cX1_enter 32 = .ok (.getfield 21, 3) := by decide +kernel
theorem dX1_enter_35 : decode cX1_enter 35 = .ok (.aload_n 0, 1) := by decide +kernel
theorem dX1_enter_36 : decode cX1_enter 36 = .ok (.getfield 55, 3) := by decide +kernel
theorem dX1_enter_39 : decode cX1_enter 39 = .ok (.iconst 0, 1) := by decide +kernel
theorem dX1_enter_40 : decode cX1_enter 40 = .ok (.iastore, 1) := by decide +kernel
theorem dX1_enter_41 : decode cX1_enter 41 = .ok (.aload_n 0, 1) := by decide +kernel
theorem dX1_enter_42 : decode cX1_enter 42 = .ok (.dup, 1) := by decide +kernel
theorem dX1_enter_43 : decode cX1_enter 43 = .ok (.getfield 55, 3) := by decide +kernel
theorem dX1_enter_46 : decode cX1_enter 46 = .ok (.iconst 1, 1) := by decide +kernel
theorem dX1_enter_47 : decode cX1_enter 47 = .ok (.iadd, 1) := by decide +kernel
theorem dX1_enter_48 : decode cX1_enter 48 = .ok (.putfield 55, 3) := by decide +kernel
theorem dX1_enter_51 : decode cX1_enter 51 = .ok (.aload_n 0, 1) := by decide +kernel
theorem dX1_enter_52 : decode cX1_enter 52 = .ok (.getfield 15, 3) := by decide +kernel
theorem dX1_enter_55 : decode cX1_enter 55 = .ok (.iload_n 2, 1) := by decide +kernel
theorem dX1_enter_56 : decode cX1_enter 56 = .ok (.iaload, 1) := by decide +kernel
theorem dX1_enter_57 : decode cX1_enter 57 = .ok (.istore_n 3, 1) := by decide +kernel
theorem dX1_enter_58 : decode cX1_enter 58 = .ok (.aload_n 0, 1) := by decide +kernel
theorem dX1_enter_59 : decode cX1_enter 59 = .ok (.getfield 15, 3) := by decide +kernel
theorem dX1_enter_62 : decode cX1_enter 62 = .ok (.iload_n 1, 1) := by decide +kernel
theorem dX1_enter_63 : decode cX1_enter 63 = .ok (.iload_n 3, 1) := by decide +kernel
theorem dX1_enter_64 : decode cX1_enter 64 = .ok (.iastore, 1) := by decide +kernel
theorem dX1_enter_65 : decode cX1_enter 65 = .ok (.aload_n 0, 1) := by decide +kernel
theorem dX1_enter_66 : decode cX1_enter 66 = .ok (.getfield 21, 3) := by decide +kernel
theorem dX1_enter_69 : decode cX1_enter 69 = .ok (.iload_n 3, 1) := by decide +kernel
theorem dX1_enter_70 : decode cX1_enter 70 = .ok (.dup2, 1) := by decide +kernel
theorem dX1_enter_71 : decode cX1_enter 71 = .ok (.iaload, 1) := by decide +kernel
theorem dX1_enter_72 : decode cX1_enter 72 = .ok (.iconst 1, 1) := by decide +kernel
theorem dX1_enter_73 : decode cX1_enter 73 = .ok (.iadd, 1) := by decide +kernel
theorem dX1_enter_74 : decode cX1_enter 74 = .ok (.iastore, 1) := by decide +kernel
theorem dX1_enter_75 : decode cX1_enter 75 = .ok (.return_, 1) := by decide +kernel
theorem dX2_init_0 : decode cX2_init 0 = .ok (.aload_n 0, 1) := by decide +kernel
theorem dX2_init_1 : decode cX2_init 1 = .ok (.invokespecial 3, 3) := by decide +kernel
theorem dX2_init_4 : decode cX2_init 4 = .ok (.aload_n 0, 1) := by decide +kernel
theorem dX2_init_5 : decode cX2_init 5 = .ok (.sipush 600, 3) := by decide +kernel
theorem dX2_init_8 : decode cX2_init 8 = .ok (.newarray .boolean, 2) := by decide +kernel
theorem dX2_init_10 : decode cX2_init 10 = .ok (.putfield 9, 3) := by decide +kernel
theorem dX2_init_13 : decode cX2_init 13 = .ok (.aload_n 0, 1) := by decide +kernel
theorem dX2_init_14 : decode cX2_init 14 = .ok (.sipush 600, 3) := by decide +kernel
theorem dX2_init_17 : decode cX2_init 17 = .ok (.newarray .int, 2) := by decide +kernel
theorem dX2_init_19 : decode cX2_init 19 = .ok (.putfield 15, 3) := by decide +kernel
theorem dX2_init_22 : decode cX2_init 22 = .ok (.return_, 1) := by decide +kernel
theorem dX2_forgetFound_0 : decode cX2_forgetFound 0 = .ok (.iconst 0, 1) := by decide +kernel
theorem dX2_forgetFound_1 : decode cX2_forgetFound 1 = .ok (.istore_n 1, 1) := by decide +kernel
theorem dX2_forgetFound_2 : decode cX2_forgetFound 2 = .ok (.iload_n 1, 1) := by decide +kernel
theorem dX2_forgetFound_3 : decode cX2_forgetFound 3 = .ok (.sipush 600, 3) := by decide +kernel
theorem dX2_forgetFound_6 : decode cX2_forgetFound 6 = .ok (.if_icmp .ge 16, 3) := by decide +kernel
theorem dX2_forgetFound_9 : decode cX2_forgetFound 9 = .ok (.aload_n 0, 1) := by decide +kernel
theorem dX2_forgetFound_10 : decode cX2_forgetFound 10 = .ok (.getfield 9, 3) := by decide +kernel
theorem dX2_forgetFound_13 : decode cX2_forgetFound 13 = .ok (.iload_n 1, 1) := by decide +kernel
theorem dX2_forgetFound_14 : decode cX2_forgetFound 14 = .ok (.iconst 0, 1) := by decide +kernel
theorem dX2_forgetFound_15 : decode cX2_forgetFound 15 = .ok (.bastore, 1) := by decide +kernel
theorem dX2_forgetFound_16 : decode cX2_forgetFound 16 = .ok (.iinc 1 1, 3) := by decide +kernel
theorem dX2_forgetFound_19 : decode cX2_forgetFound 19 = .ok (.goto (-17), 3) := by decide +kernel
theorem dX2_forgetFound_22 : decode cX2_forgetFound 22 = .ok (.aload_n 0, 1) := by decide +kernel
theorem dX2_forgetFound_23 : decode cX2_forgetFound 23 = .ok (.iconst 0, 1) := by decide +kernel
theorem dX2_forgetFound_24 : decode cX2_forgetFound 24 = .ok (.putfield 19, 3) := by decide +kernel
theorem dX2_forgetFound_27 : decode cX2_forgetFound 27 = .ok (.return_, 1) := by decide +kernel
theorem dX2_hasRoom_0 : decode cX2_hasRoom 0 = .ok (.aload_n 0, 1) := by decide +kernel
theorem dX2_hasRoom_1 : decode cX2_hasRoom 1 = .ok (.getfield 23, 3) := by decide +kernel
theorem dX2_hasRoom_4 : decode cX2_hasRoom 4 = .ok (.sipush 600, 3) := by decide +kernel
theorem dX2_hasRoom_7 : decode cX2_hasRoom 7 = .ok (.if_icmp .ge 7, 3) := by decide +kernel
theorem dX2_hasRoom_10 : decode cX2_hasRoom 10 = .ok (.iconst 1, 1) := by decide +kernel
theorem dX2_hasRoom_11 : decode cX2_hasRoom 11 = .ok (.goto 4, 3) := by decide +kernel
theorem dX2_hasRoom_14 : decode cX2_hasRoom 14 = .ok (.iconst 0, 1) := by decide +kernel
theorem dX2_hasRoom_15 : decode cX2_hasRoom 15 = .ok (.ireturn, 1) := by decide +kernel
theorem dX2_addTest_0 : decode cX2_addTest 0 = .ok (.aload_n 0, 1) := by decide +kernel
theorem dX2_addTest_1 : decode cX2_addTest 1 = .ok (.getfield 15, 3) := by decide +kernel
theorem dX2_addTest_4 : decode cX2_addTest 4 = .ok (.aload_n 0, 1) := by decide +kernel
theorem dX2_addTest_5 : decode cX2_addTest 5 = .ok (.getfield 23, 3) := by decide +kernel
theorem dX2_addTest_8 : decode cX2_addTest 8 = .ok (.iload_n 1, 1) := by decide +kernel
theorem dX2_addTest_9 : decode cX2_addTest 9 = .ok (.iastore, 1) := by decide +kernel
theorem dX2_addTest_10 : decode cX2_addTest 10 = .ok (.aload_n 0, 1) := by decide +kernel
theorem dX2_addTest_11 : decode cX2_addTest 11 = .ok (.dup, 1) := by decide +kernel
theorem dX2_addTest_12 : decode cX2_addTest 12 = .ok (.getfield 23, 3) := by decide +kernel
theorem dX2_addTest_15 : decode cX2_addTest 15 = .ok (.iconst 1, 1) := by decide +kernel
theorem dX2_addTest_16 : decode cX2_addTest 16 = .ok (.iadd, 1) := by decide +kernel
theorem dX2_addTest_17 : decode cX2_addTest 17 = .ok (.putfield 23, 3) := by decide +kernel
theorem dX2_addTest_20 : decode cX2_addTest 20 = .ok (.return_, 1) := by decide +kernel
theorem dX2_missing_0 : decode cX2_missing 0 = .ok (.iconst 0, 1) := by decide +kernel
theorem dX2_missing_1 : decode cX2_missing 1 = .ok (.istore_n 3, 1) := by decide +kernel
theorem dX2_missing_2 : decode cX2_missing 2 = .ok (.iconst 0, 1) := by decide +kernel
theorem dX2_missing_3 : decode cX2_missing 3 = .ok (.istore 4, 2) := by decide +kernel
theorem dX2_missing_5 : decode cX2_missing 5 = .ok (.iload 4, 2) := by decide +kernel
theorem dX2_missing_7 : decode cX2_missing 7 = .ok (.iload_n 2, 1) := by decide +kernel
theorem dX2_missing_8 : decode cX2_missing 8 = .ok (.if_icmp .ge 30, 3) := by decide +kernel
theorem dX2_missing_11 : decode cX2_missing 11 = .ok (.aload_n 0, 1) := by decide +kernel
theorem dX2_missing_12 : decode cX2_missing 12 = .ok (.getfield 9, 3) := by decide +kernel
theorem dX2_missing_15 : decode cX2_missing 15 = .ok (.iload 4, 2) := by decide +kernel
theorem dX2_missing_17 : decode cX2_missing 17 = .ok (.baload, 1) := by decide +kernel
theorem dX2_missing_18 : decode cX2_missing 18 = .ok (.ifCond .ne 14, 3) := by decide +kernel
theorem dX2_missing_21 : decode cX2_missing 21 = .ok (.iload_n 3, 1) := by decide +kernel
theorem dX2_missing_22 : decode cX2_missing 22 = .ok (.iload_n 1, 1) := by decide +kernel
theorem dX2_missing_23 : decode cX2_missing 23 = .ok (.if_icmp .ne 6, 3) := by decide +kernel
theorem dX2_missing_26 : decode cX2_missing 26 = .ok (.iload 4, 2) := by decide +kernel
theorem dX2_missing_28 : decode cX2_missing 28 = .ok (.ireturn, 1) := by decide +kernel
theorem dX2_missing_29 : decode cX2_missing 29 = .ok (.iinc 3 1, 3) := by decide +kernel
theorem dX2_missing_32 : decode cX2_missing 32 = .ok (.iinc 4 1, 3) := by decide +kernel
theorem dX2_missing_35 : decode cX2_missing 35 = .ok (.goto (-30), 3) := by decide +kernel
theorem dX2_missing_38 : decode cX2_missing 38 = .ok (.iconst (-1), 1) := by decide +kernel
theorem dX2_missing_39 : decode cX2_missing 39 = .ok (.ireturn, 1) := by decide +kernel
theorem dX3_init_0 : decode cX3_init 0 = .ok (.aload_n 0, 1) := by decide +kernel
theorem dX3_init_1 : decode cX3_init 1 = .ok (.invokespecial 3, 3) := by decide +kernel
theorem dX3_init_4 : decode cX3_init 4 = .ok (.aload_n 0, 1) := by decide +kernel
theorem dX3_init_5 : decode cX3_init 5 = .ok (.sipush 1600, 3) := by decide +kernel
theorem dX3_init_8 : decode cX3_init 8 = .ok (.newarray .long, 2) := by decide +kernel
theorem dX3_init_10 : decode cX3_init 10 = .ok (.putfield 9, 3) := by decide +kernel
theorem dX3_init_13 : decode cX3_init 13 = .ok (.aload_n 0, 1) := by decide +kernel
theorem dX3_init_14 : decode cX3_init 14 = .ok (.bipush 100, 2) := by decide +kernel
theorem dX3_init_16 : decode cX3_init 16 = .ok (.newarray .boolean, 2) := by decide +kernel
theorem dX3_init_18 : decode cX3_init 18 = .ok (.putfield 15, 3) := by decide +kernel
theorem dX3_init_21 : decode cX3_init 21 = .ok (.aload_n 0, 1) := by decide +kernel
theorem dX3_init_22 : decode cX3_init 22 = .ok (.bipush 100, 2) := by decide +kernel
theorem dX3_init_24 : decode cX3_init 24 = .ok (.newarray .long, 2) := by decide +kernel
theorem dX3_init_26 : decode cX3_init 26 = .ok (.putfield 19, 3) := by decide +kernel
theorem dX3_init_29 : decode cX3_init 29 = .ok (.aload_n 0, 1) := by decide +kernel
theorem dX3_init_30 : decode cX3_init 30 = .ok (.aload_n 1, 1) := by decide +kernel
theorem dX3_init_31 : decode cX3_init 31 = .ok (.putfield 22, 3) := by decide +kernel
theorem dX3_init_34 : decode cX3_init 34 = .ok (.return_, 1) := by decide +kernel
theorem dX3_forget_0 : decode cX3_forget 0 = .ok (.iconst 0, 1) := by decide +kernel
theorem dX3_forget_1 : decode cX3_forget 1 = .ok (.istore_n 1, 1) := by decide +kernel
theorem dX3_forget_2 : decode cX3_forget 2 = .ok (.iload_n 1, 1) := by decide +kernel
theorem dX3_forget_3 : decode cX3_forget 3 = .ok (.bipush 100, 2) := by decide +kernel
theorem dX3_forget_5 : decode cX3_forget 5 = .ok (.if_icmp .ge 16, 3) := by decide +kernel
theorem dX3_forget_8 : decode cX3_forget 8 = .ok (.aload_n 0, 1) := by decide +kernel
theorem dX3_forget_9 : decode cX3_forget 9 = .ok (.getfield 15, 3) := by decide +kernel
theorem dX3_forget_12 : decode cX3_forget 12 = .ok (.iload_n 1, 1) := by decide +kernel
theorem dX3_forget_13 : decode cX3_forget 13 = .ok (.iconst 0, 1) := by decide +kernel
theorem dX3_forget_14 : decode cX3_forget 14 = .ok (.bastore, 1) := by decide +kernel
theorem dX3_forget_15 : decode cX3_forget 15 = .ok (.iinc 1 1, 3) := by decide +kernel
theorem dX3_forget_18 : decode cX3_forget 18 = .ok (.goto (-16), 3) := by decide +kernel
theorem dX3_forget_21 : decode cX3_forget 21 = .ok (.return_, 1) := by decide +kernel
set_option maxRecDepth 20000 in
theorem ggX3_least_X0_words : GoodIn wsX3_least wsX0_words := goodIn_r _ [6, 7, 79, 80, 81, 82, 83, 84, 85, 86] (by decide +kernel) (by decide +kernel)
set_option maxRecDepth 20000 in
theorem gX3_least_X0_words : GoodIn wsX3_least (wsV RX3 26 RX0 yX0_words wsX0_words) := goodIn_app (goodIn_of _ (by decide +kernel)) ggX3_least_X0_words
set_option maxRecDepth 20000 in
theorem ggX3_least_X3_showing : GoodIn wsX3_least wsX3_showing := goodIn_r _ [12, 13, 1, 14, 15, 16, 17, 18, 19, 20, 11, 21, 2, 3, 4, 5, 6, 7, 22, 23, 24, 25, 26, 27, 28, 29, 30, 31, 32, 33, 34, 35, 36, 37, 38, 39, 40, 41, 42, 43, 44, 45, 46, 47, 48, 49, 50, 51, 52, 53, 54, 55, 56, 57, 58, 59, 60, 61, 62, 63, 64, 65, 75, 76, 77, 78, 79, 80, 81, 82, 83, 84, 85, 86] (by decide +kernel) (by decide +kernel)
set_option maxRecDepth 20000 in
theorem gX3_least_X3_showing : GoodIn wsX3_least (wsV RX3 32 RX3 yX3_showing wsX3_showing) := goodIn_app (goodIn_of _ (by decide +kernel)) ggX3_least_X3_showing
set_option maxRecDepth 20000 in
theorem ggX3_least_X4_lowestBit : GoodIn wsX3_least wsX4_lowestBit := goodIn_r _ [67, 68, 69, 70, 71, 72, 73, 74] (by decide +kernel) (by decide +kernel)
set_option maxRecDepth 20000 in
theorem gX3_least_X4_lowestBit_n36 : GoodIn wsX3_least (wsX4_lowestBit) := ggX3_least_X4_lowestBit
theorem dX3_least_0 : decode cX3_least 0 = .ok (.iconst 0, 1) := by decide +kernel
theorem dX3_least_1 : decode cX3_least 1 = .ok (.istore_n 2, 1) := by decide +kernel
theorem dX3_least_2 : decode cX3_least 2 = .ok (.iload_n 2, 1) := by decide +kernel
theorem dX3_least_3 : decode cX3_least 3 = .ok (.aload_n 0, 1) := by decide +kernel
theorem dX3_least_4 : decode cX3_least 4 = .ok (.getfield 22, 3) := by decide +kernel
theorem dX3_least_7 : decode cX3_least 7 = .ok (.invokevirtual 26, 3) := by decide +kernel
theorem dX3_least_10 : decode cX3_least 10 = .ok (.if_icmp .ge 32, 3) := by decide +kernel
theorem dX3_least_13 : decode cX3_least 13 = .ok (.aload_n 0, 1) := by decide +kernel
theorem dX3_least_14 : decode cX3_least 14 = .ok (.iload_n 1, 1) := by decide +kernel
theorem dX3_least_15 : decode cX3_least 15 = .ok (.iload_n 2, 1) := by decide +kernel
theorem dX3_least_16 : decode cX3_least 16 = .ok (.invokevirtual 32, 3) := by decide +kernel
theorem dX3_least_19 : decode cX3_least 19 = .ok (.lstore_n 3, 1) := by decide +kernel
theorem dX3_least_20 : decode cX3_least 20 = .ok (.lload_n 3, 1) := by decide +kernel
theorem dX3_least_21 : decode cX3_least 21 = .ok (.lconst 0, 1) := by decide +kernel
theorem dX3_least_22 : decode cX3_least 22 = .ok (.lcmp, 1) := by decide +kernel
theorem dX3_least_23 : decode cX3_least 23 = .ok (.ifCond .eq 13, 3) := by decide +kernel
theorem dX3_least_26 : decode cX3_least 26 = .ok (.iload_n 2, 1) := by decide +kernel
theorem dX3_least_27 : decode cX3_least 27 = .ok (.bipush 64, 2) := by decide +kernel
theorem dX3_least_29 : decode cX3_least 29 = .ok (.imul, 1) := by decide +kernel
theorem dX3_least_30 : decode cX3_least 30 = .ok (.lload_n 3, 1) := by decide +kernel
theorem dX3_least_31 : decode cX3_least 31 = .ok (.invokestatic 36, 3) := by decide +kernel
theorem dX3_least_34 : decode cX3_least 34 = .ok (.iadd, 1) := by decide +kernel
theorem dX3_least_35 : decode cX3_least 35 = .ok (.ireturn, 1) := by decide +kernel
theorem dX3_least_36 : decode cX3_least 36 = .ok (.iinc 2 1, 3) := by decide +kernel
theorem dX3_least_39 : decode cX3_least 39 = .ok (.goto (-37), 3) := by decide +kernel
theorem dX3_least_42 : decode cX3_least 42 = .ok (.iconst (-1), 1) := by decide +kernel
theorem dX3_least_43 : decode cX3_least 43 = .ok (.ireturn, 1) := by decide +kernel
set_option maxRecDepth 20000 in
theorem ggX3_howMany_X0_words : GoodIn wsX3_howMany wsX0_words := goodIn_r _ [6, 7, 77, 78, 79, 80, 81, 82, 83, 84] (by decide +kernel) (by decide +kernel)
set_option maxRecDepth 20000 in
theorem gX3_howMany_X0_words : GoodIn wsX3_howMany (wsV RX3 26 RX0 yX0_words wsX0_words) := goodIn_app (goodIn_of _ (by decide +kernel)) ggX3_howMany_X0_words
set_option maxRecDepth 20000 in
theorem ggX3_howMany_X3_showing : GoodIn wsX3_howMany wsX3_showing := goodIn_r _ [12, 13, 1, 14, 15, 16, 17, 18, 19, 20, 11, 21, 2, 3, 4, 5, 6, 7, 22, 23, 24, 25, 26, 27, 28, 29, 30, 31, 32, 33, 34, 35, 36, 37, 38, 39, 40, 41, 42, 43, 44, 45, 46, 47, 48, 49, 50, 51, 52, 53, 54, 55, 56, 57, 58, 59, 60, 61, 62, 63, 64, 65, 73, 74, 75, 76, 77, 78, 79, 80, 81, 82, 83, 84] (by decide +kernel) (by decide +kernel)
set_option maxRecDepth 20000 in
theorem gX3_howMany_X3_showing : GoodIn wsX3_howMany (wsV RX3 32 RX3 yX3_showing wsX3_showing) := goodIn_app (goodIn_of _ (by decide +kernel)) ggX3_howMany_X3_showing
set_option maxRecDepth 20000 in
theorem ggX3_howMany_J13_bitCount_95d88 : GoodIn wsX3_howMany wsJ13_bitCount_95d88 := goodIn_r _ [69, 70, 71, 72] (by decide +kernel) (by decide +kernel)
set_option maxRecDepth 20000 in
theorem gX3_howMany_J13_bitCount_95d88 : GoodIn wsX3_howMany (va_wsS RX3 40 yJ13_bitCount_95d88 wsJ13_bitCount_95d88) := goodIn_app (goodIn_of _ (by decide +kernel)) ggX3_howMany_J13_bitCount_95d88
theorem dX3_howMany_0 : decode cX3_howMany 0 = .ok (.iconst 0, 1) := by decide +kernel
theorem dX3_howMany_1 : decode cX3_howMany 1 = .ok (.istore_n 2, 1) := by decide +kernel
theorem dX3_howMany_2 : decode cX3_howMany 2 = .ok (.iconst 0, 1) := by decide +kernel
theorem dX3_howMany_3 : decode cX3_howMany 3 = .ok (.istore_n 3, 1) := by decide +kernel
theorem dX3_howMany_4 : decode cX3_howMany 4 = .ok (.iload_n 3, 1) := by decide +kernel
theorem dX3_howMany_5 : decode cX3_howMany 5 = .ok (.aload_n 0, 1) := by decide +kernel
theorem dX3_howMany_6 : decode cX3_howMany 6 = .ok (.getfield 22, 3) := by decide +kernel
theorem dX3_howMany_9 : decode cX3_howMany 9 = .ok (.invokevirtual 26, 3) := by decide +kernel
theorem dX3_howMany_12 : decode cX3_howMany 12 = .ok (.if_icmp .ge 21, 3) := by decide +kernel
theorem dX3_howMany_15 : decode cX3_howMany 15 = .ok (.iload_n 2, 1) := by decide +kernel
theorem dX3_howMany_16 : decode cX3_howMany 16 = .ok (.aload_n 0, 1) := by decide +kernel
theorem dX3_howMany_17 : decode cX3_howMany 17 = .ok (.iload_n 1, 1) := by decide +kernel
theorem dX3_howMany_18 : decode cX3_howMany 18 = .ok (.iload_n 3, 1) := by decide +kernel
theorem dX3_howMany_19 : decode cX3_howMany 19 = .ok (.invokevirtual 32, 3) := by decide +kernel
theorem dX3_howMany_22 : decode cX3_howMany 22 = .ok (.invokestatic 40, 3) := by decide +kernel
theorem dX3_howMany_25 : decode cX3_howMany 25 = .ok (.iadd, 1) := by decide +kernel
theorem dX3_howMany_26 : decode cX3_howMany 26 = .ok (.istore_n 2, 1) := by decide +kernel
theorem dX3_howMany_27 : decode cX3_howMany 27 = .ok (.iinc 3 1, 3) := by decide +kernel
theorem dX3_howMany_30 : decode cX3_howMany 30 = .ok (.goto (-26), 3) := by decide +kernel
theorem dX3_howMany_33 : decode cX3_howMany 33 = .ok (.iload_n 2, 1) := by decide +kernel
theorem dX3_howMany_34 : decode cX3_howMany 34 = .ok (.ireturn, 1) := by decide +kernel
set_option maxRecDepth 20000 in
theorem ggX3_isSeen_X3_showing : GoodIn wsX3_isSeen wsX3_showing := goodIn_r _ [5, 6, 7, 8, 9, 10, 11, 12, 13, 14, 4, 15, 16, 17, 18, 19, 20, 21, 22, 23, 24, 25, 26, 27, 28, 29, 30, 31, 32, 33, 34, 35, 36, 37, 38, 39, 40, 41, 42, 43, 44, 45, 46, 47, 48, 49, 50, 51, 52, 53, 54, 55, 56, 57, 58, 59, 60, 61, 62, 63, 64, 65, 68, 69, 70, 71, 72, 73, 74, 75, 76, 77, 78, 79] (by decide +kernel) (by decide +kernel)
set_option maxRecDepth 20000 in
theorem gX3_isSeen_X3_showing : GoodIn wsX3_isSeen (wsV RX3 32 RX3 yX3_showing wsX3_showing) := goodIn_app (goodIn_of _ (by decide +kernel)) ggX3_isSeen_X3_showing
set_option maxRecDepth 20000 in
theorem ggX3_isSeen_X4_bitOf : GoodIn wsX3_isSeen wsX4_bitOf := goodIn_r _ [67] (by decide +kernel) (by decide +kernel)
set_option maxRecDepth 20000 in
theorem gX3_isSeen_X4_bitOf_n45 : GoodIn wsX3_isSeen (wsX4_bitOf) := ggX3_isSeen_X4_bitOf
theorem dX3_isSeen_0 : decode cX3_isSeen 0 = .ok (.aload_n 0, 1) := by decide +kernel
theorem dX3_isSeen_1 : decode cX3_isSeen 1 = .ok (.iload_n 1, 1) := by decide +kernel
theorem dX3_isSeen_2 : decode cX3_isSeen 2 = .ok (.iload_n 2, 1) := by decide +kernel
theorem dX3_isSeen_3 : decode cX3_isSeen 3 = .ok (.bipush 64, 2) := by decide +kernel
theorem dX3_isSeen_5 : decode cX3_isSeen 5 = .ok (.idiv, 1) := by decide +kernel
theorem dX3_isSeen_6 : decode cX3_isSeen 6 = .ok (.invokevirtual 32, 3) := by decide +kernel
theorem dX3_isSeen_9 : decode cX3_isSeen 9 = .ok (.iload_n 2, 1) := by decide +kernel
theorem dX3_isSeen_10 : decode cX3_isSeen 10 = .ok (.invokestatic 45, 3) := by decide +kernel
theorem dX3_isSeen_13 : decode cX3_isSeen 13 = .ok (.iconst 1, 1) := by decide +kernel
theorem dX3_isSeen_14 : decode cX3_isSeen 14 = .ok (.if_icmp .ne 7, 3) := by decide +kernel
theorem dX3_isSeen_17 : decode cX3_isSeen 17 = .ok (.iconst 1, 1) := by decide +kernel
theorem dX3_isSeen_18 : decode cX3_isSeen 18 = .ok (.goto 4, 3) := by decide +kernel
theorem dX3_isSeen_21 : decode cX3_isSeen 21 = .ok (.iconst 0, 1) := by decide +kernel
theorem dX3_isSeen_22 : decode cX3_isSeen 22 = .ok (.ireturn, 1) := by decide +kernel
set_option maxRecDepth 20000 in
theorem ggX3_showing_X4_netOf : GoodIn wsX3_showing wsX4_netOf := goodIn_r _ [6] (by decide +kernel) (by decide +kernel)
set_option maxRecDepth 20000 in
theorem gX3_showing_X4_netOf_n49 : GoodIn wsX3_showing (wsX4_netOf) := ggX3_showing_X4_netOf
set_option maxRecDepth 20000 in
theorem ggX3_showing_X3_prepare : GoodIn wsX3_showing wsX3_prepare := goodIn_r _ [11, 2, 3, 1, 12, 13, 14, 15, 16, 17, 18, 19, 20, 10, 21, 22, 23, 24, 25, 26, 27, 28, 29, 30, 31, 32, 33, 34, 35, 36, 37, 38, 39, 5, 40, 41, 42, 43, 44, 45, 46, 62, 63, 64, 65, 66, 67, 68, 69, 70, 71, 72, 73] (by decide +kernel) (by decide +kernel)
set_option maxRecDepth 20000 in
theorem gX3_showing_X3_prepare : GoodIn wsX3_showing (wsV RX3 53 RX3 yX3_prepare wsX3_prepare) := goodIn_app (goodIn_of _ (by decide +kernel)) ggX3_showing_X3_prepare
set_option maxRecDepth 20000 in
theorem ggX3_showing_X3_faultyWord : GoodIn wsX3_showing wsX3_faultyWord := goodIn_r _ [50, 2, 30, 4, 5, 6, 51, 52, 53, 54, 55, 56, 41, 33, 34, 35, 15, 36, 37, 38, 42, 43, 44, 45, 46, 39, 40, 62, 63, 64, 65, 66, 67, 68, 69, 70, 71, 72, 73] (by decide +kernel) (by decide +kernel)
set_option maxRecDepth 20000 in
theorem gX3_showing_X3_faultyWord : GoodIn wsX3_showing (wsV RX3 57 RX3 yX3_faultyWord wsX3_faultyWord) := goodIn_app (goodIn_of _ (by decide +kernel)) ggX3_showing_X3_faultyWord
set_option maxRecDepth 20000 in
theorem ggX3_showing_X0_wordOf : GoodIn wsX3_showing wsX0_wordOf := goodIn_r _ [45, 46, 66, 67, 68, 69, 70, 71, 72, 73] (by decide +kernel) (by decide +kernel)
set_option maxRecDepth 20000 in
theorem gX3_showing_X0_wordOf : GoodIn wsX3_showing (wsV RX3 60 RX0 yX0_wordOf wsX0_wordOf) := goodIn_app (goodIn_of _ (by decide +kernel)) ggX3_showing_X0_wordOf
set_option maxRecDepth 20000 in
theorem ggX3_showing_X0_mask : GoodIn wsX3_showing wsX0_mask := goodIn_r _ [60, 17, 61, 66, 67, 68, 69, 70, 71, 72, 73] (by decide +kernel) (by decide +kernel)
set_option maxRecDepth 20000 in
theorem gX3_showing_X0_mask : GoodIn wsX3_showing (wsV RX3 63 RX0 yX0_mask wsX0_mask) := goodIn_app (goodIn_of _ (by decide +kernel)) ggX3_showing_X0_mask
theorem dX3_showing_0 : decode cX3_showing 0 = .ok (.iload_n 1, 1) := by decide +kernel
theorem dX3_showing_1 : decode cX3_showing 1 = .ok (.invokestatic 49, 3) := by decide +kernel
theorem dX3_showing_4 : decode cX3_showing 4 = .ok (.istore_n 3, 1) := by decide +kernel
theorem dX3_showing_5 : decode cX3_showing 5 = .ok (.aload_n 0, 1) := by decide +kernel
theorem dX3_showing_6 : decode cX3_showing 6 = .ok (.getfield 15, 3) := by decide +kernel
theorem dX3_showing_9 : decode cX3_showing 9 = .ok (.iload_n 3, 1) := by decide +kernel
theorem dX3_showing_10 : decode cX3_showing 10 = .ok (.baload, 1) := by decide +kernel
theorem dX3_showing_11 : decode cX3_showing 11 = .ok (.ifCond .ne 8, 3) := by decide +kernel
theorem dX3_showing_14 : decode cX3_showing 14 = .ok (.aload_n 0, 1) := by decide +kernel
theorem dX3_showing_15 : decode cX3_showing 15 = .ok (.iload_n 3, 1) := by decide +kernel
theorem dX3_showing_16 : decode cX3_showing 16 = .ok (.invokevirtual 53, 3) := by decide +kernel
theorem dX3_showing_19 : decode cX3_showing 19 = .ok (.aload_n 0, 1) := by decide +kernel
theorem dX3_showing_20 : decode cX3_showing 20 = .ok (.iload_n 1, 1) := by decide +kernel
theorem dX3_showing_21 : decode cX3_showing 21 = .ok (.iload_n 2, 1) := by decide +kernel
theorem dX3_showing_22 : decode cX3_showing 22 = .ok (.invokevirtual 57, 3) := by decide +kernel
theorem dX3_showing_25 : decode cX3_showing 25 = .ok (.aload_n 0, 1) := by decide +kernel
theorem dX3_showing_26 : decode cX3_showing 26 = .ok (.getfield 22, 3) := by decide +kernel
theorem dX3_showing_29 : decode cX3_showing 29 = .ok (.iload_n 3, 1) := by decide +kernel
theorem dX3_showing_30 : decode cX3_showing 30 = .ok (.iload_n 2, 1) := by decide +kernel
theorem dX3_showing_31 : decode cX3_showing 31 = .ok (.invokevirtual 60, 3) := by decide +kernel
theorem dX3_showing_34 : decode cX3_showing 34 = .ok (.lxor, 1) := by decide +kernel
theorem dX3_showing_35 : decode cX3_showing 35 = .ok (.lstore 4, 2) := by decide +kernel
theorem dX3_showing_37 : decode cX3_showing 37 = .ok (.lload 4, 2) := by decide +kernel
theorem dX3_showing_39 : decode cX3_showing 39 = .ok (.aload_n 0, 1) := by decide +kernel
theorem dX3_showing_40 : decode cX3_showing 40 = .ok (.getfield 9, 3) := by decide +kernel
theorem dX3_showing_43 : decode cX3_showing 43 = .ok (.iload_n 2, 1) := by decide +kernel
theorem dX3_showing_44 : decode cX3_showing 44 = .ok (.bipush 100, 2) := by decide +kernel
theorem dX3_showing_46 : decode cX3_showing 46 = .ok (.imul, 1) := by decide +kernel
theorem dX3_showing_47 : decode cX3_showing 47 = .ok (.iload_n 3, 1) := by decide +kernel
theorem dX3_showing_48 : decode cX3_showing 48 = .ok (.iadd, 1) := by decide +kernel
theorem dX3_showing_49 : decode cX3_showing 49 = .ok (.laload, 1) := by decide +kernel
theorem dX3_showing_50 : decode cX3_showing 50 = .ok (.land, 1) := by decide +kernel
theorem dX3_showing_51 : decode cX3_showing 51 = .ok (.aload_n 0, 1) := by decide +kernel
theorem dX3_showing_52 : decode cX3_showing 52 = .ok (.getfield 22, 3) := by decide +kernel
theorem dX3_showing_55 : decode cX3_showing 55 = .ok (.invokevirtual 63, 3) := by decide +kernel
theorem dX3_showing_58 : decode cX3_showing 58 = .ok (.land, 1) := by decide +kernel
theorem dX3_showing_59 : decode cX3_showing 59 = .ok (.lreturn, 1) := by decide +kernel
set_option maxRecDepth 20000 in
theorem ggX3_faultyWord_X4_netOf : GoodIn wsX3_faultyWord wsX4_netOf := goodIn_r _ [5] (by decide +kernel) (by decide +kernel)
set_option maxRecDepth 20000 in
theorem gX3_faultyWord_X4_netOf_n49 : GoodIn wsX3_faultyWord (wsX4_netOf) := ggX3_faultyWord_X4_netOf
set_option maxRecDepth 20000 in
theorem ggX3_faultyWord_X4_pinOf : GoodIn wsX3_faultyWord wsX4_pinOf := goodIn_r _ [7] (by decide +kernel) (by decide +kernel)
set_option maxRecDepth 20000 in
theorem gX3_faultyWord_X4_pinOf_n67 : GoodIn wsX3_faultyWord (wsX4_pinOf) := ggX3_faultyWord_X4_pinOf
set_option maxRecDepth 20000 in
theorem ggX3_faultyWord_X4_stuckOf : GoodIn wsX3_faultyWord wsX4_stuckOf := goodIn_r _ [9] (by decide +kernel) (by decide +kernel)
set_option maxRecDepth 20000 in
theorem gX3_faultyWord_X4_stuckOf_n70 : GoodIn wsX3_faultyWord (wsX4_stuckOf) := ggX3_faultyWord_X4_stuckOf
set_option maxRecDepth 20000 in
theorem ggX3_faultyWord_X4_allOf : GoodIn wsX3_faultyWord wsX4_allOf := goodIn_r _ [11, 12] (by decide +kernel) (by decide +kernel)
set_option maxRecDepth 20000 in
theorem gX3_faultyWord_X4_allOf_n73 : GoodIn wsX3_faultyWord (wsX4_allOf) := ggX3_faultyWord_X4_allOf
set_option maxRecDepth 20000 in
theorem ggX3_faultyWord_X0_source : GoodIn wsX3_faultyWord wsX0_source := goodIn_r _ [17, 18, 19, 31, 32, 33, 34, 35, 36, 37, 38] (by decide +kernel) (by decide +kernel)
set_option maxRecDepth 20000 in
theorem gX3_faultyWord_X0_source : GoodIn wsX3_faultyWord (wsV RX3 77 RX0 yX0_source wsX0_source) := goodIn_app (goodIn_of _ (by decide +kernel)) ggX3_faultyWord_X0_source
set_option maxRecDepth 20000 in
theorem ggX3_faultyWord_X0_wordOf : GoodIn wsX3_faultyWord wsX0_wordOf := goodIn_r _ [23, 24, 31, 32, 33, 34, 35, 36, 37, 38] (by decide +kernel) (by decide +kernel)
set_option maxRecDepth 20000 in
theorem gX3_faultyWord_X0_wordOf : GoodIn wsX3_faultyWord (wsV RX3 60 RX0 yX0_wordOf wsX0_wordOf) := goodIn_app (goodIn_of _ (by decide +kernel)) ggX3_faultyWord_X0_wordOf
set_option maxRecDepth 20000 in
theorem ggX3_faultyWord_X4_gateWord : GoodIn wsX3_faultyWord wsX4_gateWord := goodIn_r _ [26, 12] (by decide +kernel) (by decide +kernel)
set_option maxRecDepth 20000 in
theorem gX3_faultyWord_X4_gateWord_n85 : GoodIn wsX3_faultyWord (wsX4_gateWord) := ggX3_faultyWord_X4_gateWord
theorem dX3_faultyWord_0 : decode cX3_faultyWord 0 = .ok (.iload_n 1, 1) := by decide +kernel
theorem dX3_faultyWord_1 : decode cX3_faultyWord 1 = .ok (.invokestatic 49, 3) := by decide +kernel
theorem dX3_faultyWord_4 : decode cX3_faultyWord 4 = .ok (.istore_n 3, 1) := by decide +kernel
theorem dX3_faultyWord_5 : decode cX3_faultyWord 5 = .ok (.iload_n 1, 1) := by decide +kernel
theorem dX3_faultyWord_6 : decode cX3_faultyWord 6 = .ok (.invokestatic 67, 3) := by decide +kernel
theorem dX3_faultyWord_9 : decode cX3_faultyWord 9 = .ok (.istore 4, 2) := by decide +kernel
theorem dX3_faultyWord_11 : decode cX3_faultyWord 11 = .ok (.iload_n 1, 1) := by decide +kernel
theorem dX3_faultyWord_12 : decode cX3_faultyWord 12 = .ok (.invokestatic 70, 3) := by decide +kernel
theorem dX3_faultyWord_15 : decode cX3_faultyWord 15 = .ok (.invokestatic 73, 3) := by decide +kernel
theorem dX3_faultyWord_18 : decode cX3_faultyWord 18 = .ok (.lstore 5, 2) := by decide +kernel
theorem dX3_faultyWord_20 : decode cX3_faultyWord 20 = .ok (.iload 4, 2) := by decide +kernel
theorem dX3_faultyWord_22 : decode cX3_faultyWord 22 = .ok (.iconst (-1), 1) := by decide +kernel
theorem dX3_faultyWord_23 : decode cX3_faultyWord 23 = .ok (.if_icmp .ne 6, 3) := by decide +kernel
theorem dX3_faultyWord_26 : decode cX3_faultyWord 26 = .ok (.lload 5, 2) := by decide +kernel
theorem dX3_faultyWord_28 : decode cX3_faultyWord 28 = .ok (.lreturn, 1) := by decide +kernel
theorem dX3_faultyWord_29 : decode cX3_faultyWord 29 = .ok (.iload 4, 2) := by decide +kernel
theorem dX3_faultyWord_31 : decode cX3_faultyWord 31 = .ok (.ifCond .ne 8, 3) := by decide +kernel
theorem dX3_faultyWord_34 : decode cX3_faultyWord 34 = .ok (.lload 5, 2) := by decide +kernel
theorem dX3_faultyWord_36 : decode cX3_faultyWord 36 = .ok (.goto 20, 3) := by decide +kernel
theorem dX3_faultyWord_39 : decode cX3_faultyWord 39 = .ok (.aload_n 0, 1) := by decide +kernel
theorem dX3_faultyWord_40 : decode cX3_faultyWord 40 = .ok (.getfield 22, 3) := by decide +kernel
theorem dX3_faultyWord_43 : decode cX3_faultyWord 43 = .ok (.aload_n 0, 1) := by decide +kernel
theorem dX3_faultyWord_44 : decode cX3_faultyWord 44 = .ok (.getfield 22, 3) := by decide +kernel
theorem dX3_faultyWord_47 : decode cX3_faultyWord 47 = .ok (.iload_n 3, 1) := by decide +kernel
theorem dX3_faultyWord_48 : decode cX3_faultyWord 48 = .ok (.iconst 0, 1) := by decide +kernel
theorem dX3_faultyWord_49 : decode cX3_faultyWord 49 = .ok (.invokevirtual 77, 3) := by decide +kernel
theorem dX3_faultyWord_52 : decode cX3_faultyWord 52 = .ok (.iload_n 2, 1) := by decide +kernel
theorem dX3_faultyWord_53 : decode cX3_faultyWord 53 = .ok (.invokevirtual 60, 3) := by decide +kernel
theorem dX3_faultyWord_56 : decode cX3_faultyWord 56 = .ok (.lstore 7, 2) := by decide +kernel
theorem dX3_faultyWord_58 : decode cX3_faultyWord 58 = .ok (.iload 4, 2) := by decide +kernel
theorem dX3_faultyWord_60 : decode cX3_faultyWord 60 = .ok (.iconst 1, 1) := by decide +kernel
theorem dX3_faultyWord_61 : decode cX3_faultyWord 61 = .ok (.if_icmp .ne 8, 3) := by decide +kernel
theorem dX3_faultyWord_64 : decode cX3_faultyWord 64 = .ok (.lload 5, 2) := by decide +kernel
theorem dX3_faultyWord_66 : decode cX3_faultyWord 66 = .ok (.goto 20, 3) := by decide +kernel
theorem dX3_faultyWord_69 : decode cX3_faultyWord 69 = .ok (.aload_n 0, 1) := by decide +kernel
theorem dX3_faultyWord_70 : decode cX3_faultyWord 70 = .ok (.getfield 22, 3) := by decide +kernel
theorem dX3_faultyWord_73 : decode cX3_faultyWord 73 = .ok (.aload_n 0, 1) := by decide +kernel
theorem dX3_faultyWord_74 : decode cX3_faultyWord 74 = .ok (.getfield 22, 3) := by decide +kernel
theorem dX3_faultyWord_77 : decode cX3_faultyWord 77 = .ok (.iload_n 3, 1) := by decide +kernel
theorem dX3_faultyWord_78 : decode cX3_faultyWord 78 = .ok (.iconst 1, 1) := by decide +kernel
theorem dX3_faultyWord_79 : decode cX3_faultyWord 79 = .ok (.invokevirtual 77, 3) := by decide +kernel
theorem dX3_faultyWord_82 : decode cX3_faultyWord 82 = .ok (.iload_n 2, 1) := by decide +kernel
theorem dX3_faultyWord_83 : decode cX3_faultyWord 83 = .ok (.invokevirtual 60, 3) := by decide +kernel
theorem dX3_faultyWord_86 : decode cX3_faultyWord 86 = .ok (.lstore 9, 2) := by decide +kernel
theorem dX3_faultyWord_88 : decode cX3_faultyWord 88 = .ok (.aload_n 0, 1) := by decide +kernel
theorem dX3_faultyWord_89 : decode cX3_faultyWord 89 = .ok (.getfield 22, 3) := by decide +kernel
theorem dX3_faultyWord_92 : decode cX3_faultyWord 92 = .ok (.getfield 81, 3) := by decide +kernel
theorem dX3_faultyWord_95 : decode cX3_faultyWord 95 = .ok (.iload_n 3, 1) := by decide +kernel
theorem dX3_faultyWord_96 : decode cX3_faultyWord 96 = .ok (.iaload, 1) := by decide +kernel
theorem dX3_faultyWord_97 : decode cX3_faultyWord 97 = .ok (.lload 7, 2) := by decide +kernel
theorem dX3_faultyWord_99 : decode cX3_faultyWord 99 = .ok (.lload 9, 2) := by decide +kernel
theorem dX3_faultyWord_101 : decode cX3_faultyWord 101 = .ok (.invokestatic 85, 3) := by decide +kernel
theorem dX3_faultyWord_104 : decode cX3_faultyWord 104 = .ok (.lreturn, 1) := by decide +kernel
set_option maxRecDepth 20000 in
theorem ggX3_prepare_X0_words : GoodIn wsX3_prepare wsX0_words := goodIn_r _ [8, 9, 45, 46, 47, 48, 49, 50, 51, 52] (by decide +kernel) (by decide +kernel)
set_option maxRecDepth 20000 in
theorem gX3_prepare_X0_words : GoodIn wsX3_prepare (wsV RX3 26 RX0 yX0_words wsX0_words) := goodIn_app (goodIn_of _ (by decide +kernel)) ggX3_prepare_X0_words
set_option maxRecDepth 20000 in
theorem ggX3_prepare_X3_effectOfChange : GoodIn wsX3_prepare wsX3_effectOfChange := goodIn_r _ [14, 1, 15, 16, 17, 18, 19, 20, 21, 22, 23, 24, 25, 26, 27, 28, 7, 29, 30, 31, 32, 33, 34, 35, 36, 37, 38, 39, 40, 41, 42, 43, 44, 45, 46, 47, 48, 49, 50, 51, 52] (by decide +kernel) (by decide +kernel)
set_option maxRecDepth 20000 in
theorem gX3_prepare_X3_effectOfChange : GoodIn wsX3_prepare (wsV RX3 89 RX3 yX3_effectOfChange wsX3_effectOfChange) := goodIn_app (goodIn_of _ (by decide +kernel)) ggX3_prepare_X3_effectOfChange
theorem dX3_prepare_0 : decode cX3_prepare 0 = .ok (.iconst 0, 1) := by decide +kernel
theorem dX3_prepare_1 : decode cX3_prepare 1 = .ok (.istore_n 2, 1) := by decide +kernel
theorem dX3_prepare_2 : decode cX3_prepare 2 = .ok (.iload_n 2, 1) := by decide +kernel
theorem dX3_prepare_3 : decode cX3_prepare 3 = .ok (.aload_n 0, 1) := by decide +kernel
theorem dX3_prepare_4 : decode cX3_prepare 4 = .ok (.getfield 22, 3) := by decide +kernel
theorem dX3_prepare_7 : decode cX3_prepare 7 = .ok (.invokevirtual 26, 3) := by decide +kernel
theorem dX3_prepare_10 : decode cX3_prepare 10 = .ok (.if_icmp .ge 26, 3) := by decide +kernel
theorem dX3_prepare_13 : decode cX3_prepare 13 = .ok (.aload_n 0, 1) := by decide +kernel
theorem dX3_prepare_14 : decode cX3_prepare 14 = .ok (.getfield 9, 3) := by decide +kernel
theorem dX3_prepare_17 : decode cX3_prepare 17 = .ok (.iload_n 2, 1) := by decide +kernel
theorem dX3_prepare_18 : decode cX3_prepare 18 = .ok (.bipush 100, 2) := by decide +kernel
theorem dX3_prepare_20 : decode cX3_prepare 20 = .ok (.imul, 1) := by decide +kernel
theorem dX3_prepare_21 : decode cX3_prepare 21 = .ok (.iload_n 1, 1) := by decide +kernel
theorem dX3_prepare_22 : decode cX3_prepare 22 = .ok (.iadd, 1) := by decide +kernel
theorem dX3_prepare_23 : decode cX3_prepare 23 = .ok (.aload_n 0, 1) := by decide +kernel
theorem dX3_prepare_24 : decode cX3_prepare 24 = .ok (.iload_n 1, 1) := by decide +kernel
theorem dX3_prepare_25 : decode cX3_prepare 25 = .ok (.iload_n 2, 1) := by decide +kernel
theorem dX3_prepare_26 : decode cX3_prepare 26 = .ok (.invokevirtual 89, 3) := by decide +kernel
theorem dX3_prepare_29 : decode cX3_prepare 29 = .ok (.lastore, 1) := by decide +kernel
theorem dX3_prepare_30 : decode cX3_prepare 30 = .ok (.iinc 2 1, 3) := by decide +kernel
theorem dX3_prepare_33 : decode cX3_prepare 33 = .ok (.goto (-31), 3) := by decide +kernel
theorem dX3_prepare_36 : decode cX3_prepare 36 = .ok (.aload_n 0, 1) := by decide +kernel
theorem dX3_prepare_37 : decode cX3_prepare 37 = .ok (.getfield 15, 3) := by decide +kernel
theorem dX3_prepare_40 : decode cX3_prepare 40 = .ok (.iload_n 1, 1) := by decide +kernel
theorem dX3_prepare_41 : decode cX3_prepare 41 = .ok (.iconst 1, 1) := by decide +kernel
theorem dX3_prepare_42 : decode cX3_prepare 42 = .ok (.bastore, 1) := by decide +kernel
theorem dX3_prepare_43 : decode cX3_prepare 43 = .ok (.return_, 1) := by decide +kernel
set_option maxRecDepth 20000 in
theorem ggX3_effectOfChange_X0_source : GoodIn wsX3_effectOfChange wsX0_source := goodIn_r _ [17, 18, 19, 33, 34, 35, 36, 37, 38, 39, 40] (by decide +kernel) (by decide +kernel)
set_option maxRecDepth 20000 in
theorem gX3_effectOfChange_X0_source : GoodIn wsX3_effectOfChange (wsV RX3 77 RX0 yX0_source wsX0_source) := goodIn_app (goodIn_of _ (by decide +kernel)) ggX3_effectOfChange_X0_source
set_option maxRecDepth 20000 in
theorem ggX3_effectOfChange_X4_gateWord : GoodIn wsX3_effectOfChange wsX4_gateWord := goodIn_r _ [22, 23] (by decide +kernel) (by decide +kernel)
set_option maxRecDepth 20000 in
theorem gX3_effectOfChange_X4_gateWord_n85 : GoodIn wsX3_effectOfChange (wsX4_gateWord) := ggX3_effectOfChange_X4_gateWord
set_option maxRecDepth 20000 in
theorem ggX3_effectOfChange_X0_wordOf : GoodIn wsX3_effectOfChange wsX0_wordOf := goodIn_r _ [27, 28, 33, 34, 35, 36, 37, 38, 39, 40] (by decide +kernel) (by decide +kernel)
set_option maxRecDepth 20000 in
theorem gX3_effectOfChange_X0_wordOf : GoodIn wsX3_effectOfChange (wsV RX3 60 RX0 yX0_wordOf wsX0_wordOf) := goodIn_app (goodIn_of _ (by decide +kernel)) ggX3_effectOfChange_X0_wordOf
theorem dX3_effectOfChange_0 : decode cX3_effectOfChange 0 = .ok (.aload_n 0, 1) := by decide +kernel
theorem dX3_effectOfChange_1 : decode cX3_effectOfChange 1 = .ok (.getfield 22, 3) := by decide +kernel
theorem dX3_effectOfChange_4 : decode cX3_effectOfChange 4 = .ok (.getfield 92, 3) := by decide +kernel
theorem dX3_effectOfChange_7 : decode cX3_effectOfChange 7 = .ok (.iload_n 2, 1) := by decide +kernel
theorem dX3_effectOfChange_8 : decode cX3_effectOfChange 8 = .ok (.bipush 100, 2) := by decide +kernel
theorem dX3_effectOfChange_10 : decode cX3_effectOfChange 10 = .ok (.imul, 1) := by decide +kernel
theorem dX3_effectOfChange_11 : decode cX3_effectOfChange 11 = .ok (.aload_n 0, 1) := by decide +kernel
theorem dX3_effectOfChange_12 : decode cX3_effectOfChange 12 = .ok (.getfield 19, 3) := by decide +kernel
theorem dX3_effectOfChange_15 : decode cX3_effectOfChange 15 = .ok (.iconst 0, 1) := by decide +kernel
theorem dX3_effectOfChange_16 : decode cX3_effectOfChange 16 = .ok (.bipush 100, 2) := by decide +kernel
theorem dX3_effectOfChange_18 : decode cX3_effectOfChange 18 = .ok (.invokestatic 95, 3) := by decide +kernel
theorem dX3_effectOfChange_21 : decode cX3_effectOfChange 21 = .ok (.aload_n 0, 1) := by decide +kernel
theorem dX3_effectOfChange_22 : decode cX3_effectOfChange 22 = .ok (.getfield 19, 3) := by decide +kernel
theorem dX3_effectOfChange_25 : decode cX3_effectOfChange 25 = .ok (.iload_n 1, 1) := by decide +kernel
theorem dX3_effectOfChange_26 : decode cX3_effectOfChange 26 = .ok (.aload_n 0, 1) := by decide +kernel
theorem dX3_effectOfChange_27 : decode cX3_effectOfChange 27 = .ok (.getfield 19, 3) := by decide +kernel
theorem dX3_effectOfChange_30 : decode cX3_effectOfChange 30 = .ok (.iload_n 1, 1) := by decide +kernel
theorem dX3_effectOfChange_31 : decode cX3_effectOfChange 31 = .ok (.laload, 1) := by decide +kernel
theorem dX3_effectOfChange_32 : decode cX3_effectOfChange 32 = .ok (.ldc2_w 101, 3) := by decide +kernel
theorem dX3_effectOfChange_35 : decode cX3_effectOfChange 35 = .ok (.lxor, 1) := by decide +kernel
theorem dX3_effectOfChange_36 : decode cX3_effectOfChange 36 = .ok (.lastore, 1) := by decide +kernel
theorem dX3_effectOfChange_37 : decode cX3_effectOfChange 37 = .ok (.iload_n 1, 1) := by decide +kernel
theorem dX3_effectOfChange_38 : decode cX3_effectOfChange 38 = .ok (.iconst 1, 1) := by decide +kernel
theorem dX3_effectOfChange_39 : decode cX3_effectOfChange 39 = .ok (.iadd, 1) := by decide +kernel
theorem dX3_effectOfChange_40 : decode cX3_effectOfChange 40 = .ok (.istore_n 3, 1) := by decide +kernel
theorem dX3_effectOfChange_41 : decode cX3_effectOfChange 41 = .ok (.iload_n 3, 1) := by decide +kernel
theorem dX3_effectOfChange_42 : decode cX3_effectOfChange 42 = .ok (.aload_n 0, 1) := by decide +kernel
theorem dX3_effectOfChange_43 : decode cX3_effectOfChange 43 = .ok (.getfield 22, 3) := by decide +kernel
theorem dX3_effectOfChange_46 : decode cX3_effectOfChange 46 = .ok (.getfield 103, 3) := by decide +kernel
theorem dX3_effectOfChange_49 : decode cX3_effectOfChange 49 = .ok (.if_icmp .ge 73, 3) := by decide +kernel
theorem dX3_effectOfChange_52 : decode cX3_effectOfChange 52 = .ok (.aload_n 0, 1) := by decide +kernel
theorem dX3_effectOfChange_53 : decode cX3_effectOfChange 53 = .ok (.getfield 22, 3) := by decide +kernel
theorem dX3_effectOfChange_56 : decode cX3_effectOfChange 56 = .ok (.getfield 81, 3) := by decide +kernel
theorem dX3_effectOfChange_59 : decode cX3_effectOfChange 59 = .ok (.iload_n 3, 1) := by decide +kernel
theorem dX3_effectOfChange_60 : decode cX3_effectOfChange 60 = .ok (.iaload, 1) := by decide +kernel
theorem dX3_effectOfChange_61 : decode cX3_effectOfChange 61 = .ok (.istore 4, 2) := by decide +kernel
theorem dX3_effectOfChange_63 : decode cX3_effectOfChange 63 = .ok (.iload 4, 2) := by decide +kernel
theorem dX3_effectOfChange_65 : decode cX3_effectOfChange 65 = .ok (.iconst (-1), 1) := by decide +kernel
theorem dX3_effectOfChange_66 : decode cX3_effectOfChange 66 = .ok (.if_icmp .eq 50, 3) := by decide +kernel
theorem dX3_effectOfChange_69 : decode cX3_effectOfChange 69 = .ok (.aload_n 0, 1) := by decide +kernel
theorem dX3_effectOfChange_70 : decode cX3_effectOfChange 70 = .ok (.getfield 19, 3) := by decide +kernel
theorem dX3_effectOfChange_73 : decode cX3_effectOfChange 73 = .ok (.aload_n 0, 1) := by decide +kernel
theorem dX3_effectOfChange_74 : decode cX3_effectOfChange 74 = .ok (.getfield 22, 3) := by decide +kernel
theorem dX3_effectOfChange_77 : decode cX3_effectOfChange 77 = .ok (.iload_n 3, 1) := by decide +kernel
theorem dX3_effectOfChange_78 : decode cX3_effectOfChange 78 = .ok (.iconst 0, 1) := by decide +kernel
theorem dX3_effectOfChange_79 : decode cX3_effectOfChange 79 = .ok (.invokevirtual 77, 3) := by decide +kernel
theorem dX3_effectOfChange_82 : decode cX3_effectOfChange 82 = .ok (.laload, 1) := by decide +kernel
theorem dX3_effectOfChange_83 : decode cX3_effectOfChange 83 = .ok (.lstore 5, 2) := by decide +kernel
theorem dX3_effectOfChange_85 : decode cX3_effectOfChange 85 = .ok (.aload_n 0, 1) := by decide +kernel
theorem dX3_effectOfChange_86 : decode cX3_effectOfChange 86 = .ok (.getfield 19, 3) := by decide +kernel
theorem dX3_effectOfChange_89 : decode cX3_effectOfChange 89 = .ok (.aload_n 0, 1) := by decide +kernel
theorem dX3_effectOfChange_90 : decode cX3_effectOfChange 90 = .ok (.getfield 22, 3) := by decide +kernel
theorem dX3_effectOfChange_93 : decode cX3_effectOfChange 93 = .ok (.iload_n 3, 1) := by decide +kernel
theorem dX3_effectOfChange_94 : decode cX3_effectOfChange 94 = .ok (.iconst 1, 1) := by decide +kernel
theorem dX3_effectOfChange_95 : decode cX3_effectOfChange 95 = .ok (.invokevirtual 77, 3) := by decide +kernel
theorem dX3_effectOfChange_98 : decode cX3_effectOfChange 98 = .ok (.laload, 1) := by decide +kernel
theorem dX3_effectOfChange_99 : decode cX3_effectOfChange 99 = .ok (.lstore 7, 2) := by decide +kernel
theorem dX3_effectOfChange_101 : decode cX3_effectOfChange 101 = .ok (.aload_n 0, 1) := by decide +kernel
theorem dX3_effectOfChange_102 : decode cX3_effectOfChange 102 = .ok (.getfield 19, 3) := by decide +kernel
theorem dX3_effectOfChange_105 : decode cX3_effectOfChange 105 = .ok (.iload_n 3, 1) := by decide +kernel
theorem dX3_effectOfChange_106 : decode cX3_effectOfChange 106 = .ok (.iload 4, 2) := by decide +kernel
theorem dX3_effectOfChange_108 : decode cX3_effectOfChange 108 = .ok (.lload 5, 2) := by decide +kernel
theorem dX3_effectOfChange_110 : decode cX3_effectOfChange 110 = .ok (.lload 7, 2) := by decide +kernel
theorem dX3_effectOfChange_112 : decode cX3_effectOfChange 112 = .ok (.invokestatic 85, 3) := by decide +kernel
theorem dX3_effectOfChange_115 : decode cX3_effectOfChange 115 = .ok (.lastore, 1) := by decide +kernel
theorem dX3_effectOfChange_116 : decode cX3_effectOfChange 116 = .ok (.iinc 3 1, 3) := by decide +kernel
theorem dX3_effectOfChange_119 : decode cX3_effectOfChange 119 = .ok (.goto (-78), 3) := by decide +kernel
theorem dX3_effectOfChange_122 : decode cX3_effectOfChange 122 = .ok (.lconst 0, 1) := by decide +kernel
theorem dX3_effectOfChange_123 : decode cX3_effectOfChange 123 = .ok (.lstore_n 3, 1) := by decide +kernel
theorem dX3_effectOfChange_124 : decode cX3_effectOfChange 124 = .ok (.iconst 0, 1) := by decide +kernel
theorem dX3_effectOfChange_125 : decode cX3_effectOfChange 125 = .ok (.istore 5, 2) := by decide +kernel
theorem dX3_effectOfChange_127 : decode cX3_effectOfChange 127 = .ok (.iload 5, 2) := by decide +kernel
theorem dX3_effectOfChange_129 : decode cX3_effectOfChange 129 = .ok (.aload_n 0, 1) := by decide +kernel
theorem dX3_effectOfChange_130 : decode cX3_effectOfChange 130 = .ok (.getfield 22, 3) := by decide +kernel
theorem dX3_effectOfChange_133 : decode cX3_effectOfChange 133 = .ok (.getfield 107, 3) := by decide +kernel
theorem dX3_effectOfChange_136 : decode cX3_effectOfChange 136 = .ok (.if_icmp .ge 42, 3) := by decide +kernel
theorem dX3_effectOfChange_139 : decode cX3_effectOfChange 139 = .ok (.aload_n 0, 1) := by decide +kernel
theorem dX3_effectOfChange_140 : decode cX3_effectOfChange 140 = .ok (.getfield 22, 3) := by decide +kernel
theorem dX3_effectOfChange_143 : decode cX3_effectOfChange 143 = .ok (.getfield 110, 3) := by decide +kernel
theorem dX3_effectOfChange_146 : decode cX3_effectOfChange 146 = .ok (.iload 5, 2) := by decide +kernel
theorem dX3_effectOfChange_148 : decode cX3_effectOfChange 148 = .ok (.iaload, 1) := by decide +kernel
theorem dX3_effectOfChange_149 : decode cX3_effectOfChange 149 = .ok (.istore 6, 2) := by decide +kernel
theorem dX3_effectOfChange_151 : decode cX3_effectOfChange 151 = .ok (.lload_n 3, 1) := by decide +kernel
theorem dX3_effectOfChange_152 : decode cX3_effectOfChange 152 = .ok (.aload_n 0, 1) := by decide +kernel
theorem dX3_effectOfChange_153 : decode cX3_effectOfChange 153 = .ok (.getfield 19, 3) := by decide +kernel
theorem dX3_effectOfChange_156 : decode cX3_effectOfChange 156 = .ok (.iload 6, 2) := by decide +kernel
theorem dX3_effectOfChange_158 : decode cX3_effectOfChange 158 = .ok (.laload, 1) := by decide +kernel
theorem dX3_effectOfChange_159 : decode cX3_effectOfChange 159 = .ok (.aload_n 0, 1) := by decide +kernel
theorem dX3_effectOfChange_160 : decode cX3_effectOfChange 160 = .ok (.getfield 22, 3) := by decide +kernel
theorem dX3_effectOfChange_163 : decode cX3_effectOfChange 163 = .ok (.iload 6, 2) := by decide +kernel
theorem dX3_effectOfChange_165 : decode cX3_effectOfChange 165 = .ok (.iload_n 2, 1) := by decide +kernel
theorem dX3_effectOfChange_166 : decode cX3_effectOfChange 166 = .ok (.invokevirtual 60, 3) := by decide +kernel
theorem dX3_effectOfChange_169 : decode cX3_effectOfChange 169 = .ok (.lxor, 1) := by decide +kernel
theorem dX3_effectOfChange_170 : decode cX3_effectOfChange 170 = .ok (.lor, 1) := by decide +kernel
theorem dX3_effectOfChange_171 : decode cX3_effectOfChange 171 = .ok (.lstore_n 3, 1) := by decide +kernel
theorem dX3_effectOfChange_172 : decode cX3_effectOfChange 172 = .ok (.iinc 5 1, 3) := by decide +kernel
theorem dX3_effectOfChange_175 : decode cX3_effectOfChange 175 = .ok (.goto (-48), 3) := by decide +kernel
theorem dX3_effectOfChange_178 : decode cX3_effectOfChange 178 = .ok (.lload_n 3, 1) := by decide +kernel
theorem dX3_effectOfChange_179 : decode cX3_effectOfChange 179 = .ok (.lreturn, 1) := by decide +kernel
set_option maxRecDepth 20000 in
theorem ggX4_init_X0_init : GoodIn wsX4_init wsX0_init := goodIn_r _ [22, 23, 2, 3, 24, 25, 26, 27, 28, 29, 30, 53, 54, 55, 56, 57, 58, 59, 60] (by decide +kernel) (by decide +kernel)
set_option maxRecDepth 20000 in
theorem gX4_init_X0_init_n11 : GoodIn wsX4_init (wsX0_init) := ggX4_init_X0_init
set_option maxRecDepth 20000 in
theorem ggX4_init_X1_init : GoodIn wsX4_init wsX1_init := goodIn_r _ [32, 33, 2, 3, 24, 34, 35, 36, 37, 38, 66, 67, 68, 69, 70, 71] (by decide +kernel) (by decide +kernel)
set_option maxRecDepth 20000 in
theorem gX4_init_X1_init_n18 : GoodIn wsX4_init (wsX1_init) := ggX4_init_X1_init
set_option maxRecDepth 20000 in
theorem ggX4_init_X3_init : GoodIn wsX4_init wsX3_init := goodIn_r _ [41, 42, 2, 3, 29, 43, 44, 45, 46, 47, 72, 73, 74, 75] (by decide +kernel) (by decide +kernel)
set_option maxRecDepth 20000 in
theorem gX4_init_X3_init : GoodIn wsX4_init (wsX3_init) := ggX4_init_X3_init
set_option maxRecDepth 20000 in
theorem ggX4_init_X2_init : GoodIn wsX4_init wsX2_init := goodIn_r _ [49, 50, 2, 3, 44, 51, 24, 52, 76, 77, 78, 79] (by decide +kernel) (by decide +kernel)
set_option maxRecDepth 20000 in
theorem gX4_init_X2_init_n34 : GoodIn wsX4_init (wsX2_init) := ggX4_init_X2_init
theorem dX4_init_0 : decode cX4_init 0 = .ok (.aload_n 0, 1) := by decide +kernel
theorem dX4_init_1 : decode cX4_init 1 = .ok (.invokespecial 3, 3) := by decide +kernel
theorem dX4_init_4 : decode cX4_init 4 = .ok (.aload_n 0, 1) := by decide +kernel
theorem dX4_init_5 : decode cX4_init 5 = .ok (.new 9, 3) := by decide +kernel
theorem dX4_init_8 : decode cX4_init 8 = .ok (.dup, 1) := by decide +kernel
theorem dX4_init_9 : decode cX4_init 9 = .ok (.invokespecial 11, 3) := by decide +kernel
theorem dX4_init_12 : decode cX4_init 12 = .ok (.putfield 12, 3) := by decide +kernel
theorem dX4_init_15 : decode cX4_init 15 = .ok (.aload_n 0, 1) := by decide +kernel
theorem dX4_init_16 : decode cX4_init 16 = .ok (.new 16, 3) := by decide +kernel
theorem dX4_init_19 : decode cX4_init 19 = .ok (.dup, 1) := by decide +kernel
theorem dX4_init_20 : decode cX4_init 20 = .ok (.invokespecial 18, 3) := by decide +kernel
theorem dX4_init_23 : decode cX4_init 23 = .ok (.putfield 19, 3) := by decide +kernel
theorem dX4_init_26 : decode cX4_init 26 = .ok (.aload_n 0, 1) := by decide +kernel
theorem dX4_init_27 : decode cX4_init 27 = .ok (.new 23, 3) := by decide +kernel
theorem dX4_init_30 : decode cX4_init 30 = .ok (.dup, 1) := by decide +kernel
theorem dX4_init_31 : decode cX4_init 31 = .ok (.aload_n 0, 1) := by decide +kernel
theorem dX4_init_32 : decode cX4_init 32 = .ok (.getfield 12, 3) := by decide +kernel
theorem dX4_init_35 : decode cX4_init 35 = .ok (.invokespecial 25, 3) := by decide +kernel
theorem dX4_init_38 : decode cX4_init 38 = .ok (.putfield 28, 3) := by decide +kernel
theorem dX4_init_41 : decode cX4_init 41 = .ok (.aload_n 0, 1) := by decide +kernel
theorem dX4_init_42 : decode cX4_init 42 = .ok (.new 32, 3) := by decide +kernel
theorem dX4_init_45 : decode cX4_init 45 = .ok (.dup, 1) := by decide +kernel
theorem dX4_init_46 : decode cX4_init 46 = .ok (.invokespecial 34, 3) := by decide +kernel
theorem dX4_init_49 : decode cX4_init 49 = .ok (.putfield 35, 3) := by decide +kernel
theorem dX4_init_52 : decode cX4_init 52 = .ok (.aload_n 0, 1) := by decide +kernel
theorem dX4_init_53 : decode cX4_init 53 = .ok (.iconst 0, 1) := by decide +kernel
theorem dX4_init_54 : decode cX4_init 54 = .ok (.putfield 39, 3) := by decide +kernel
theorem dX4_init_57 : decode cX4_init 57 = .ok (.return_, 1) := by decide +kernel
set_option maxRecDepth 20000 in
theorem ggX4_input_X0_addInput : GoodIn wsX4_input wsX0_addInput := goodIn_r _ [10, 11, 12, 13, 14, 15, 16, 9, 17, 18, 19, 20, 21, 48, 49, 50, 51, 52, 53, 54, 55] (by decide +kernel) (by decide +kernel)
set_option maxRecDepth 20000 in
theorem gX4_input_X0_addInput : GoodIn wsX4_input (wsV RX4 57 RX0 yX0_addInput wsX0_addInput) := goodIn_app (goodIn_of _ (by decide +kernel)) ggX4_input_X0_addInput
set_option maxRecDepth 20000 in
theorem ggX4_input_X4_forgetDerived : GoodIn wsX4_input wsX4_forgetDerived := goodIn_r _ [25, 26, 27, 28, 29, 30, 31, 32, 33, 34, 35, 36, 37, 38, 39, 40, 41, 42, 43, 44, 45, 46, 47, 56, 57, 58, 59, 60, 61, 62, 63] (by decide +kernel) (by decide +kernel)
set_option maxRecDepth 20000 in
theorem gX4_input_X4_forgetDerived : GoodIn wsX4_input (wsV RX4 61 RX4 yX4_forgetDerived wsX4_forgetDerived) := goodIn_app (goodIn_of _ (by decide +kernel)) ggX4_input_X4_forgetDerived
theorem dX4_input_0 : decode cX4_input 0 = .ok (.aload_n 0, 1) := by decide +kernel
theorem dX4_input_1 : decode cX4_input 1 = .ok (.getfield 12, 3) := by decide +kernel
theorem dX4_input_4 : decode cX4_input 4 = .ok (.getfield 43, 3) := by decide +kernel
theorem dX4_input_7 : decode cX4_input 7 = .ok (.bipush 10, 2) := by decide +kernel
theorem dX4_input_9 : decode cX4_input 9 = .ok (.if_icmp .ge 15, 3) := by decide +kernel
theorem dX4_input_12 : decode cX4_input 12 = .ok (.aload_n 0, 1) := by decide +kernel
theorem dX4_input_13 : decode cX4_input 13 = .ok (.getfield 12, 3) := by decide +kernel
theorem dX4_input_16 : decode cX4_input 16 = .ok (.getfield 47, 3) := by decide +kernel
theorem dX4_input_19 : decode cX4_input 19 = .ok (.bipush 100, 2) := by decide +kernel
theorem dX4_input_21 : decode cX4_input 21 = .ok (.if_icmp .lt 13, 3) := by decide +kernel
theorem dX4_input_24 : decode cX4_input 24 = .ok (.new 50, 3) := by decide +kernel
theorem dX4_input_27 : decode cX4_input 27 = .ok (.dup, 1) := by decide +kernel
theorem dX4_input_28 : decode cX4_input 28 = .ok (.ldc 52, 2) := by decide +kernel
theorem dX4_input_30 : decode cX4_input 30 = .ok (.invokespecial 54, 3) := by decide +kernel
theorem dX4_input_33 : decode cX4_input 33 = .ok (.athrow, 1) := by decide +kernel
theorem dX4_input_34 : decode cX4_input 34 = .ok (.aload_n 0, 1) := by decide +kernel
theorem dX4_input_35 : decode cX4_input 35 = .ok (.getfield 12, 3) := by decide +kernel
theorem dX4_input_38 : decode cX4_input 38 = .ok (.invokevirtual 57, 3) := by decide +kernel
theorem dX4_input_41 : decode cX4_input 41 = .ok (.istore_n 1, 1) := by decide +kernel
theorem dX4_input_42 : decode cX4_input 42 = .ok (.aload_n 0, 1) := by decide +kernel
theorem dX4_input_43 : decode cX4_input 43 = .ok (.invokevirtual 61, 3) := by decide +kernel
theorem dX4_input_46 : decode cX4_input 46 = .ok (.iload_n 1, 1) := by decide +kernel
theorem dX4_input_47 : decode cX4_input 47 = .ok (.ireturn, 1) := by decide +kernel
set_option maxRecDepth 20000 in
theorem ggX4_gate_X0_hasNet : GoodIn wsX4_gate wsX0_hasNet := goodIn_r _ [13, 14, 60, 61, 62, 63, 64, 65, 66, 67] (by decide +kernel) (by decide +kernel)
set_option maxRecDepth 20000 in
theorem gX4_gate_X0_hasNet : GoodIn wsX4_gate (wsV RX4 64 RX0 yX0_hasNet wsX0_hasNet) := goodIn_app (goodIn_of _ (by decide +kernel)) ggX4_gate_X0_hasNet
set_option maxRecDepth 20000 in
theorem ggX4_gate_X4_isOnePin : GoodIn wsX4_gate wsX4_isOnePin := goodIn_r _ [18] (by decide +kernel) (by decide +kernel)
set_option maxRecDepth 20000 in
theorem gX4_gate_X4_isOnePin : GoodIn wsX4_gate (va_wsS RX4 68 yX4_isOnePin wsX4_isOnePin) := goodIn_app (goodIn_of _ (by decide +kernel)) ggX4_gate_X4_isOnePin
set_option maxRecDepth 20000 in
theorem ggX4_gate_X0_addGate : GoodIn wsX4_gate wsX0_addGate := goodIn_r _ [22, 14, 23, 24, 25, 26, 27, 28, 29, 12, 30, 31, 17, 32, 33, 60, 61, 62, 63, 64, 65, 66, 67] (by decide +kernel) (by decide +kernel)
set_option maxRecDepth 20000 in
theorem gX4_gate_X0_addGate : GoodIn wsX4_gate (wsV RX4 83 RX0 yX0_addGate wsX0_addGate) := goodIn_app (goodIn_of _ (by decide +kernel)) ggX4_gate_X0_addGate
set_option maxRecDepth 20000 in
theorem ggX4_gate_X4_forgetDerived : GoodIn wsX4_gate wsX4_forgetDerived := goodIn_r _ [37, 38, 39, 40, 41, 42, 43, 44, 45, 46, 47, 48, 49, 50, 51, 52, 53, 54, 55, 56, 57, 58, 59, 68, 69, 70, 71, 72, 73, 74, 75] (by decide +kernel) (by decide +kernel)
set_option maxRecDepth 20000 in
theorem gX4_gate_X4_forgetDerived : GoodIn wsX4_gate (wsV RX4 61 RX4 yX4_forgetDerived wsX4_forgetDerived) := goodIn_app (goodIn_of _ (by decide +kernel)) ggX4_gate_X4_forgetDerived
theorem dX4_gate_0 : decode cX4_gate 0 = .ok (.aload_n 0, 1) := by decide +kernel
theorem dX4_gate_1 : decode cX4_gate 1 = .ok (.getfield 12, 3) := by decide +kernel
theorem dX4_gate_4 : decode cX4_gate 4 = .ok (.iload_n 2, 1) := by decide +kernel
theorem dX4_gate_5 : decode cX4_gate 5 = .ok (.invokevirtual 64, 3) := by decide +kernel
theorem dX4_gate_8 : decode cX4_gate 8 = .ok (.ifCond .eq 21, 3) := by decide +kernel
theorem dX4_gate_11 : decode cX4_gate 11 = .ok (.iload_n 1, 1) := by decide +kernel
theorem dX4_gate_12 : decode cX4_gate 12 = .ok (.invokestatic 68, 3) := by decide +kernel
theorem dX4_gate_15 : decode cX4_gate 15 = .ok (.ifCond .ne 24, 3) := by decide +kernel
theorem dX4_gate_18 : decode cX4_gate 18 = .ok (.aload_n 0, 1) := by decide +kernel
theorem dX4_gate_19 : decode cX4_gate 19 = .ok (.getfield 12, 3) := by decide +kernel
theorem dX4_gate_22 : decode cX4_gate 22 = .ok (.iload_n 3, 1) := by decide +kernel
theorem dX4_gate_23 : decode cX4_gate 23 = .ok (.invokevirtual 64, 3) := by decide +kernel
theorem dX4_gate_26 : decode cX4_gate 26 = .ok (.ifCond .ne 13, 3) := by decide +kernel
theorem dX4_gate_29 : decode cX4_gate 29 = .ok (.new 71, 3) := by decide +kernel
theorem dX4_gate_32 : decode cX4_gate 32 = .ok (.dup, 1) := by decide +kernel
theorem dX4_gate_33 : decode cX4_gate 33 = .ok (.ldc 73, 2) := by decide +kernel
theorem dX4_gate_35 : decode cX4_gate 35 = .ok (.invokespecial 75, 3) := by decide +kernel
theorem dX4_gate_38 : decode cX4_gate 38 = .ok (.athrow, 1) := by decide +kernel
theorem dX4_gate_39 : decode cX4_gate 39 = .ok (.aload_n 0, 1) := by decide +kernel
theorem dX4_gate_40 : decode cX4_gate 40 = .ok (.getfield 12, 3) := by decide +kernel
theorem dX4_gate_43 : decode cX4_gate 43 = .ok (.getfield 47, 3) := by decide +kernel
theorem dX4_gate_46 : decode cX4_gate 46 = .ok (.bipush 100, 2) := by decide +kernel
theorem dX4_gate_48 : decode cX4_gate 48 = .ok (.if_icmp .lt 13, 3) := by decide +kernel
theorem dX4_gate_51 : decode cX4_gate 51 = .ok (.new 50, 3) := by decide +kernel
theorem dX4_gate_54 : decode cX4_gate 54 = .ok (.dup, 1) := by decide +kernel
theorem dX4_gate_55 : decode cX4_gate 55 = .ok (.ldc 76, 2) := by decide +kernel
theorem dX4_gate_57 : decode cX4_gate 57 = .ok (.invokespecial 54, 3) := by decide +kernel
theorem dX4_gate_60 : decode cX4_gate 60 = .ok (.athrow, 1) := by decide +kernel
theorem dX4_gate_61 : decode cX4_gate 61 = .ok (.iload_n 1, 1) := by decide +kernel
theorem dX4_gate_62 : decode cX4_gate 62 = .ok (.ifCond .lt 9, 3) := by decide +kernel
theorem dX4_gate_65 : decode cX4_gate 65 = .ok (.iload_n 1, 1) := by decide +kernel
theorem dX4_gate_66 : decode cX4_gate 66 = .ok (.bipush 6, 2) := by decide +kernel
theorem dX4_gate_68 : decode cX4_gate 68 = .ok (.if_icmp .le 13, 3) := by decide +kernel
theorem dX4_gate_71 : decode cX4_gate 71 = .ok (.new 78, 3) := by decide +kernel
theorem dX4_gate_74 : decode cX4_gate 74 = .ok (.dup, 1) := by decide +kernel
theorem dX4_gate_75 : decode cX4_gate 75 = .ok (.ldc 80, 2) := by decide +kernel
theorem dX4_gate_77 : decode cX4_gate 77 = .ok (.invokespecial 82, 3) := by decide +kernel
theorem dX4_gate_80 : decode cX4_gate 80 = .ok (.athrow, 1) := by decide +kernel
theorem dX4_gate_81 : decode cX4_gate 81 = .ok (.aload_n 0, 1) := by decide +kernel
theorem dX4_gate_82 : decode cX4_gate 82 = .ok (.getfield 12, 3) := by decide +kernel
theorem dX4_gate_85 : decode cX4_gate 85 = .ok (.iload_n 1, 1) := by decide +kernel
theorem dX4_gate_86 : decode cX4_gate 86 = .ok (.iload_n 2, 1) := by decide +kernel
theorem dX4_gate_87 : decode cX4_gate 87 = .ok (.iload_n 1, 1) := by decide +kernel
theorem dX4_gate_88 : decode cX4_gate 88 = .ok (.invokestatic 68, 3) := by decide +kernel
theorem dX4_gate_91 : decode cX4_gate 91 = .ok (.ifCond .eq 7, 3) := by decide +kernel
theorem dX4_gate_94 : decode cX4_gate 94 = .ok (.iload_n 2, 1) := by decide +kernel
theorem dX4_gate_95 : decode cX4_gate 95 = .ok (.goto 4, 3) := by decide +kernel
theorem dX4_gate_98 : decode cX4_gate 98 = .ok (.iload_n 3, 1) := by decide +kernel
theorem dX4_gate_99 : decode cX4_gate 99 = .ok (.invokevirtual 83, 3) := by decide +kernel
theorem dX4_gate_102 : decode cX4_gate 102 = .ok (.istore 4, 2) := by decide +kernel
theorem dX4_gate_104 : decode cX4_gate 104 = .ok (.aload_n 0, 1) := by decide +kernel
theorem dX4_gate_105 : decode cX4_gate 105 = .ok (.invokevirtual 61, 3) := by decide +kernel
theorem dX4_gate_108 : decode cX4_gate 108 = .ok (.iload 4, 2) := by decide +kernel
theorem dX4_gate_110 : decode cX4_gate 110 = .ok (.ireturn, 1) := by decide +kernel
set_option maxRecDepth 20000 in
theorem ggX4_output_X4_requireNet : GoodIn wsX4_output wsX4_requireNet := goodIn_ca (goodIn_r _ [9, 10, 11, 3, 12, 13, 14, 15, 16, 17, 45, 46, 47, 48, 49, 50, 51, 52, 53, 54, 55, 56, 57] (by decide +kernel) (by decide +kernel)) (goodIn_sub (fun _ h => List.mem_cons_of_mem _ (List.mem_append_right _ h)) (by decide +kernel))
set_option maxRecDepth 20000 in
theorem gX4_output_X4_requireNet : GoodIn wsX4_output (wsV RX4 87 RX4 yX4_requireNet wsX4_requireNet) := goodIn_app (goodIn_of _ (by decide +kernel)) ggX4_output_X4_requireNet
set_option maxRecDepth 20000 in
theorem ggX4_output_X0_addOutput : GoodIn wsX4_output wsX0_addOutput := goodIn_r _ [21, 22, 23, 50, 51, 52, 53, 54, 55, 56, 57] (by decide +kernel) (by decide +kernel)
set_option maxRecDepth 20000 in
theorem gX4_output_X0_addOutput : GoodIn wsX4_output (wsV RX4 96 RX0 yX0_addOutput wsX0_addOutput) := goodIn_app (goodIn_of _ (by decide +kernel)) ggX4_output_X0_addOutput
set_option maxRecDepth 20000 in
theorem ggX4_output_X4_forgetDerived : GoodIn wsX4_output wsX4_forgetDerived := goodIn_r _ [27, 28, 29, 30, 31, 32, 33, 34, 35, 36, 37, 38, 39, 40, 41, 42, 43, 44, 45, 46, 47, 48, 49, 58, 59, 60, 61, 62, 63, 64, 65] (by decide +kernel) (by decide +kernel)
set_option maxRecDepth 20000 in
theorem gX4_output_X4_forgetDerived : GoodIn wsX4_output (wsV RX4 61 RX4 yX4_forgetDerived wsX4_forgetDerived) := goodIn_app (goodIn_of _ (by decide +kernel)) ggX4_output_X4_forgetDerived
theorem dX4_output_0 : decode cX4_output 0 = .ok (.aload_n 0, 1) := by decide +kernel
theorem dX4_output_1 : decode cX4_output 1 = .ok (.iload_n 1, 1) := by decide +kernel
theorem dX4_output_2 : decode cX4_output 2 = .ok (.invokevirtual 87, 3) := by decide +kernel
theorem dX4_output_5 : decode cX4_output 5 = .ok (.aload_n 0, 1) := by decide +kernel
theorem dX4_output_6 : decode cX4_output 6 = .ok (.getfield 12, 3) := by decide +kernel
theorem dX4_output_9 : decode cX4_output 9 = .ok (.getfield 91, 3) := by decide +kernel
theorem dX4_output_12 : decode cX4_output 12 = .ok (.bipush 12, 2) := by decide +kernel
theorem dX4_output_14 : decode cX4_output 14 = .ok (.if_icmp .lt 13, 3) := by decide +kernel
theorem dX4_output_17 : decode cX4_output 17 = .ok (.new 50, 3) := by decide +kernel
theorem dX4_output_20 : decode cX4_output 20 = .ok (.dup, 1) := by decide +kernel
theorem dX4_output_21 : decode cX4_output 21 = .ok (.ldc 94, 2) := by decide +kernel
theorem dX4_output_23 : decode cX4_output 23 = .ok (.invokespecial 54, 3) := by decide +kernel
theorem dX4_output_26 : decode cX4_output 26 = .ok (.athrow, 1) := by decide +kernel
theorem dX4_output_27 : decode cX4_output 27 = .ok (.aload_n 0, 1) := by decide +kernel
theorem dX4_output_28 : decode cX4_output 28 = .ok (.getfield 12, 3) := by decide +kernel
theorem dX4_output_31 : decode cX4_output 31 = .ok (.iload_n 1, 1) := by decide +kernel
theorem dX4_output_32 : decode cX4_output 32 = .ok (.invokevirtual 96, 3) := by decide +kernel
theorem dX4_output_35 : decode cX4_output 35 = .ok (.istore_n 2, 1) := by decide +kernel
theorem dX4_output_36 : decode cX4_output 36 = .ok (.aload_n 0, 1) := by decide +kernel
theorem dX4_output_37 : decode cX4_output 37 = .ok (.invokevirtual 61, 3) := by decide +kernel
theorem dX4_output_40 : decode cX4_output 40 = .ok (.iload_n 2, 1) := by decide +kernel
theorem dX4_output_41 : decode cX4_output 41 = .ok (.ireturn, 1) := by decide +kernel
set_option maxRecDepth 20000 in
theorem ggX4_value_X4_requireNet : GoodIn wsX4_value wsX4_requireNet := goodIn_ca (goodIn_r _ [6, 7, 8, 1, 9, 10, 11, 12, 13, 14, 28, 29, 30, 31, 32, 33, 34, 35, 36, 37, 38, 39, 40] (by decide +kernel) (by decide +kernel)) (goodIn_sub (fun _ h => List.mem_cons_of_mem _ (List.mem_append_right _ h)) (by decide +kernel))
set_option maxRecDepth 20000 in
theorem gX4_value_X4_requireNet : GoodIn wsX4_value (wsV RX4 87 RX4 yX4_requireNet wsX4_requireNet) := goodIn_app (goodIn_of _ (by decide +kernel)) ggX4_value_X4_requireNet
set_option maxRecDepth 20000 in
theorem ggX4_value_X0_known : GoodIn wsX4_value wsX0_known := goodIn_r _ [18, 19, 33, 34, 35, 36, 37, 38, 39, 40] (by decide +kernel) (by decide +kernel)
set_option maxRecDepth 20000 in
theorem gX4_value_X0_known : GoodIn wsX4_value (wsV RX4 100 RX0 yX0_known wsX0_known) := goodIn_app (goodIn_of _ (by decide +kernel)) ggX4_value_X0_known
set_option maxRecDepth 20000 in
theorem ggX4_value_X0_wordOf : GoodIn wsX4_value wsX0_wordOf := goodIn_r _ [23, 24, 33, 34, 35, 36, 37, 38, 39, 40] (by decide +kernel) (by decide +kernel)
set_option maxRecDepth 20000 in
theorem gX4_value_X0_wordOf : GoodIn wsX4_value (wsV RX4 103 RX0 yX0_wordOf wsX0_wordOf) := goodIn_app (goodIn_of _ (by decide +kernel)) ggX4_value_X0_wordOf
set_option maxRecDepth 20000 in
theorem ggX4_value_X4_bitOf : GoodIn wsX4_value wsX4_bitOf := goodIn_r _ [27] (by decide +kernel) (by decide +kernel)
set_option maxRecDepth 20000 in
theorem gX4_value_X4_bitOf : GoodIn wsX4_value (va_wsS RX4 107 yX4_bitOf wsX4_bitOf) := goodIn_app (goodIn_of _ (by decide +kernel)) ggX4_value_X4_bitOf
