def GW : List Cond := lw_tbl.filter goodWord
theorem gw1 {w : Cond} (h : w ∈ tables_1_1) (g : goodWord w = true) : w ∈ GW := List.mem_filter.mpr ⟨List.mem_append_right _ ((List.mem_append_left _ h)), g⟩
theorem gw2 {w : Cond} (h : w ∈ tables_1_2) (g : goodWord w = true) : w ∈ GW := List.mem_filter.mpr ⟨List.mem_append_right _ ((List.mem_append_right _ (List.mem_append_left _ h))), g⟩
theorem gw3 {w : Cond} (h : w ∈ tables_1_3) (g : goodWord w = true) : w ∈ GW := List.mem_filter.mpr ⟨List.mem_append_right _ ((List.mem_append_right _ (List.mem_append_right _ (List.mem_append_left _ h)))), g⟩
theorem gw4 {w : Cond} (h : w ∈ tables_1_4) (g : goodWord w = true) : w ∈ GW := List.mem_filter.mpr ⟨List.mem_append_right _ ((List.mem_append_right _ (List.mem_append_right _ (List.mem_append_right _ (List.mem_append_left _ h))))), g⟩
theorem gw5 {w : Cond} (h : w ∈ tables_1_5) (g : goodWord w = true) : w ∈ GW := List.mem_filter.mpr ⟨List.mem_append_right _ ((List.mem_append_right _ (List.mem_append_right _ (List.mem_append_right _ (List.mem_append_right _ (List.mem_append_left _ h)))))), g⟩
theorem gw6 {w : Cond} (h : w ∈ tables_1_6) (g : goodWord w = true) : w ∈ GW := List.mem_filter.mpr ⟨List.mem_append_right _ ((List.mem_append_right _ (List.mem_append_right _ (List.mem_append_right _ (List.mem_append_right _ (List.mem_append_right _ (List.mem_append_left _ h))))))), g⟩
theorem gw7 {w : Cond} (h : w ∈ tables_1_7) (g : goodWord w = true) : w ∈ GW := List.mem_filter.mpr ⟨List.mem_append_right _ ((List.mem_append_right _ (List.mem_append_right _ (List.mem_append_right _ (List.mem_append_right _ (List.mem_append_right _ (List.mem_append_right _ (List.mem_append_left _ h)))))))), g⟩
theorem gw8 {w : Cond} (h : w ∈ tables_1_8) (g : goodWord w = true) : w ∈ GW := List.mem_filter.mpr ⟨List.mem_append_right _ ((List.mem_append_right _ (List.mem_append_right _ (List.mem_append_right _ (List.mem_append_right _ (List.mem_append_right _ (List.mem_append_right _ (List.mem_append_right _ h)))))))), g⟩
theorem g1_0 : Cond.initialized RL ∈ GW := gw1 (List.mem_of_getElem? (i := 0) rfl) rfl
theorem g1_1 : Cond.initialized RX7 ∈ GW := gw1 (List.mem_of_getElem? (i := 1) rfl) rfl
theorem g1_2 : Cond.initialized RX6 ∈ GW := gw1 (List.mem_of_getElem? (i := 2) rfl) rfl
theorem g1_3 : Cond.initialized RX4 ∈ GW := gw1 (List.mem_of_getElem? (i := 3) rfl) rfl
theorem g1_4 : Cond.initialized RX2 ∈ GW := gw1 (List.mem_of_getElem? (i := 4) rfl) rfl
theorem g1_5 : Cond.initialized RX5 ∈ GW := gw1 (List.mem_of_getElem? (i := 5) rfl) rfl
theorem g1_6 : Cond.initialized RX1 ∈ GW := gw1 (List.mem_of_getElem? (i := 6) rfl) rfl
theorem g1_7 : Cond.initialized RJx29ce0 ∈ GW := gw1 (List.mem_of_getElem? (i := 7) rfl) rfl
theorem g1_8 : Cond.initialized RX3 ∈ GW := gw1 (List.mem_of_getElem? (i := 8) rfl) rfl
theorem g1_9 : Cond.initialized RJ5 ∈ GW := gw1 (List.mem_of_getElem? (i := 9) rfl) rfl
theorem g1_10 : Cond.initialized RJ4 ∈ GW := gw1 (List.mem_of_getElem? (i := 10) rfl) rfl
theorem g1_11 : Cond.initialized RJ0 ∈ GW := gw1 (List.mem_of_getElem? (i := 11) rfl) rfl
theorem g1_12 : Cond.initialized RJ2 ∈ GW := gw1 (List.mem_of_getElem? (i := 12) rfl) rfl
theorem g1_13 : Cond.initialized RX8 ∈ GW := gw1 (List.mem_of_getElem? (i := 13) rfl) rfl
theorem g1_14 : Cond.initialized "java/lang/Throwable" ∈ GW := gw1 (List.mem_of_getElem? (i := 14) rfl) rfl
theorem g1_15 : Cond.initialized "java/lang/Exception" ∈ GW := gw1 (List.mem_of_getElem? (i := 15) rfl) rfl
theorem g1_16 : Cond.initialized "java/lang/RuntimeException" ∈ GW := gw1 (List.mem_of_getElem? (i := 16) rfl) rfl
theorem g1_17 : Cond.initialized "java/lang/IndexOutOfBoundsException" ∈ GW := gw1 (List.mem_of_getElem? (i := 17) rfl) rfl
theorem g1_18 : Cond.initialized RJx00060 ∈ GW := gw1 (List.mem_of_getElem? (i := 18) rfl) rfl
theorem g1_19 : Cond.initialized RJ10 ∈ GW := gw1 (List.mem_of_getElem? (i := 19) rfl) rfl
theorem g1_20 : Cond.initialized "java/util/NoSuchElementException" ∈ GW := gw1 (List.mem_of_getElem? (i := 20) rfl) rfl
theorem g1_21 : Cond.initialized "java/lang/IllegalArgumentException" ∈ GW := gw1 (List.mem_of_getElem? (i := 21) rfl) rfl
theorem g1_22 : Cond.initialized "java/lang/UnsupportedOperationException" ∈ GW := gw1 (List.mem_of_getElem? (i := 22) rfl) rfl
theorem g1_23 : Cond.initialized "java/lang/IllegalStateException" ∈ GW := gw1 (List.mem_of_getElem? (i := 23) rfl) rfl
theorem g1_24 : Cond.initialized RJ9 ∈ GW := gw1 (List.mem_of_getElem? (i := 24) rfl) rfl
theorem g1_25 : Cond.initialized "java/lang/ArithmeticException" ∈ GW := gw1 (List.mem_of_getElem? (i := 25) rfl) rfl
theorem g1_26 : Cond.initialized RJx7c733 ∈ GW := gw1 (List.mem_of_getElem? (i := 26) rfl) rfl
theorem g1_27 : Cond.initialized RJ8 ∈ GW := gw1 (List.mem_of_getElem? (i := 27) rfl) rfl
theorem g1_28 : Cond.initialized RJ7 ∈ GW := gw1 (List.mem_of_getElem? (i := 28) rfl) rfl
theorem g1_29 : Cond.initialized RJ3 ∈ GW := gw1 (List.mem_of_getElem? (i := 29) rfl) rfl
theorem g1_30 : Cond.initialized RJ1 ∈ GW := gw1 (List.mem_of_getElem? (i := 30) rfl) rfl
theorem g1_31 : Cond.initialized RJxd2413 ∈ GW := gw1 (List.mem_of_getElem? (i := 31) rfl) rfl
theorem g1_32 : Cond.initialized RJ6 ∈ GW := gw1 (List.mem_of_getElem? (i := 32) rfl) rfl
theorem g1_33 : Cond.initialized RX0 ∈ GW := gw1 (List.mem_of_getElem? (i := 33) rfl) rfl
theorem g1_34 : Cond.classLink RL 8 RX7 ∈ GW := gw1 (List.mem_of_getElem? (i := 34) rfl) rfl
theorem g1_35 : Cond.instantiable RX7 9 ∈ GW := gw1 (List.mem_of_getElem? (i := 35) rfl) rfl
theorem g1_36 : Cond.methodLink RL 145 yX7_init ∈ GW := gw1 (List.mem_of_getElem? (i := 36) rfl) rfl
theorem g1_37 : Cond.instanceMethod yX7_init ∈ GW := gw1 (List.mem_of_getElem? (i := 37) rfl) rfl
theorem g1_38 : Cond.code yX7_init cX7_init 1 none ∈ GW := gw1 (List.mem_of_getElem? (i := 38) rfl) rfl
theorem g1_39 : Cond.methodLink RX7 3 ⟨"java/lang/Object", "<init>", "()V"⟩ ∈ GW := gw1 (List.mem_of_getElem? (i := 39) rfl) rfl
theorem g1_40 : Cond.instanceMethod ⟨"java/lang/Object", "<init>", "()V"⟩ ∈ GW := gw1 (List.mem_of_getElem? (i := 40) rfl) rfl
theorem g1_41 : Cond.code ⟨"java/lang/Object", "<init>", "()V"⟩ object_method_1_code 1 none ∈ GW := gw1 (List.mem_of_getElem? (i := 41) rfl) rfl
theorem g1_42 : Cond.classLink RX7 9 RX6 ∈ GW := gw1 (List.mem_of_getElem? (i := 42) rfl) rfl
theorem g1_43 : Cond.instantiable RX6 4 ∈ GW := gw1 (List.mem_of_getElem? (i := 43) rfl) rfl
theorem g1_44 : Cond.methodLink RX7 11 yX6_init ∈ GW := gw1 (List.mem_of_getElem? (i := 44) rfl) rfl
theorem g1_45 : Cond.instanceMethod yX6_init ∈ GW := gw1 (List.mem_of_getElem? (i := 45) rfl) rfl
theorem g1_46 : Cond.code yX6_init cX6_init 2 none ∈ GW := gw1 (List.mem_of_getElem? (i := 46) rfl) rfl
theorem g1_47 : Cond.methodLink RX6 3 ⟨"java/lang/Object", "<init>", "()V"⟩ ∈ GW := gw1 (List.mem_of_getElem? (i := 47) rfl) rfl
theorem g1_48 : Cond.classLink RX6 9 RX4 ∈ GW := gw1 (List.mem_of_getElem? (i := 48) rfl) rfl
theorem g1_50 : Cond.instantiable RX4 5 ∈ GW := gw1 (List.mem_of_getElem? (i := 50) rfl) rfl
theorem g1_52 : Cond.instanceMethod yX4_init ∈ GW := gw1 (List.mem_of_getElem? (i := 52) rfl) rfl
theorem g1_53 : Cond.code yX4_init cX4_init 1 none ∈ GW := gw1 (List.mem_of_getElem? (i := 53) rfl) rfl
theorem g1_54 : Cond.methodLink RX4 3 ⟨"java/lang/Object", "<init>", "()V"⟩ ∈ GW := gw1 (List.mem_of_getElem? (i := 54) rfl) rfl
theorem g1_55 : Cond.fieldLink RX4 9 "PenNursery$Nest" "numbers" "[I" ∈ GW := gw1 (List.mem_of_getElem? (i := 55) rfl) rfl
theorem g1_56 : Cond.fieldLink RX6 122 "PenNursery$Nest" "numbers" "[I" ∈ GW := gw1 (List.mem_of_getElem? (i := 56) rfl) rfl
theorem g1_57 : Cond.fieldLink RX7 131 "PenNursery$Nest" "numbers" "[I" ∈ GW := gw1 (List.mem_of_getElem? (i := 57) rfl) rfl
theorem g1_58 : Cond.fieldLink RX4 15 "PenNursery$Nest" "feathers" "[C" ∈ GW := gw1 (List.mem_of_getElem? (i := 58) rfl) rfl
theorem g1_59 : Cond.fieldLink RX6 118 "PenNursery$Nest" "feathers" "[C" ∈ GW := gw1 (List.mem_of_getElem? (i := 59) rfl) rfl
theorem g1_60 : Cond.fieldLink RX7 111 "PenNursery$Nest" "feathers" "[C" ∈ GW := gw1 (List.mem_of_getElem? (i := 60) rfl) rfl
theorem g1_61 : Cond.fieldLink RX4 19 "PenNursery$Nest" "dates" "[I" ∈ GW := gw1 (List.mem_of_getElem? (i := 61) rfl) rfl
theorem g1_62 : Cond.fieldLink RX6 140 "PenNursery$Nest" "dates" "[I" ∈ GW := gw1 (List.mem_of_getElem? (i := 62) rfl) rfl
theorem g1_63 : Cond.fieldLink RX7 118 "PenNursery$Nest" "dates" "[I" ∈ GW := gw1 (List.mem_of_getElem? (i := 63) rfl) rfl
theorem g1_64 : Cond.fieldLink RX4 22 "PenNursery$Nest" "size" "I" ∈ GW := gw1 (List.mem_of_getElem? (i := 64) rfl) rfl
theorem g1_65 : Cond.fieldLink RX6 115 "PenNursery$Nest" "size" "I" ∈ GW := gw1 (List.mem_of_getElem? (i := 65) rfl) rfl
theorem g1_66 : Cond.fieldLink RX7 143 "PenNursery$Nest" "size" "I" ∈ GW := gw1 (List.mem_of_getElem? (i := 66) rfl) rfl
theorem g1_67 : Cond.fieldLink RX4 26 "PenNursery$Nest" "exchanges" "J" ∈ GW := gw1 (List.mem_of_getElem? (i := 67) rfl) rfl
theorem g1_68 : Cond.fieldLink RX6 167 "PenNursery$Nest" "exchanges" "J" ∈ GW := gw1 (List.mem_of_getElem? (i := 68) rfl) rfl
theorem g1_69 : Cond.laysFinal RX4 "PenNursery$Nest" "numbers" "[I" ∈ GW := gw1 (List.mem_of_getElem? (i := 69) rfl) rfl
theorem g1_71 : Cond.laysFinal RX4 "PenNursery$Nest" "feathers" "[C" ∈ GW := gw1 (List.mem_of_getElem? (i := 71) rfl) rfl
theorem g1_73 : Cond.laysFinal RX4 "PenNursery$Nest" "dates" "[I" ∈ GW := gw1 (List.mem_of_getElem? (i := 73) rfl) rfl
theorem g1_75 : Cond.lays RX4 "PenNursery$Nest" "size" "I" ∈ GW := gw1 (List.mem_of_getElem? (i := 75) rfl) rfl
theorem g1_77 : Cond.lays RX4 "PenNursery$Nest" "exchanges" "J" ∈ GW := gw1 (List.mem_of_getElem? (i := 77) rfl) rfl
theorem g1_79 : Cond.superclass RX4 "java/lang/Object" ∈ GW := gw1 (List.mem_of_getElem? (i := 79) rfl) rfl
theorem g1_80 : Cond.arrayClass .int ∈ GW := gw1 (List.mem_of_getElem? (i := 80) rfl) rfl
theorem g1_81 : Cond.arrayClass .char ∈ GW := gw1 (List.mem_of_getElem? (i := 81) rfl) rfl
theorem g1_82 : Cond.fieldLink RX6 11 "PenNursery$State" "nests" "[LPenNursery$Nest;" ∈ GW := gw1 (List.mem_of_getElem? (i := 82) rfl) rfl
theorem g1_83 : Cond.fieldLink RX7 200 "PenNursery$State" "nests" "[LPenNursery$Nest;" ∈ GW := gw1 (List.mem_of_getElem? (i := 83) rfl) rfl
theorem g1_84 : Cond.fieldLink RX6 17 "PenNursery$State" "stocks" "[I" ∈ GW := gw1 (List.mem_of_getElem? (i := 84) rfl) rfl
theorem g1_85 : Cond.fieldLink RX7 177 "PenNursery$State" "stocks" "[I" ∈ GW := gw1 (List.mem_of_getElem? (i := 85) rfl) rfl
theorem g1_86 : Cond.fieldLink RX6 21 "PenNursery$State" "planted" "I" ∈ GW := gw1 (List.mem_of_getElem? (i := 86) rfl) rfl
theorem g1_87 : Cond.fieldLink RX7 195 "PenNursery$State" "planted" "I" ∈ GW := gw1 (List.mem_of_getElem? (i := 87) rfl) rfl
theorem g1_88 : Cond.fieldLink RX6 25 "PenNursery$State" "picked" "I" ∈ GW := gw1 (List.mem_of_getElem? (i := 88) rfl) rfl
theorem g1_89 : Cond.fieldLink RX7 182 "PenNursery$State" "picked" "I" ∈ GW := gw1 (List.mem_of_getElem? (i := 89) rfl) rfl
theorem g1_90 : Cond.laysFinal RX6 "PenNursery$State" "nests" "[LPenNursery$Nest;" ∈ GW := gw1 (List.mem_of_getElem? (i := 90) rfl) rfl
theorem g1_92 : Cond.laysFinal RX6 "PenNursery$State" "stocks" "[I" ∈ GW := gw1 (List.mem_of_getElem? (i := 92) rfl) rfl
theorem g1_94 : Cond.lays RX6 "PenNursery$State" "planted" "I" ∈ GW := gw1 (List.mem_of_getElem? (i := 94) rfl) rfl
theorem g1_96 : Cond.lays RX6 "PenNursery$State" "picked" "I" ∈ GW := gw1 (List.mem_of_getElem? (i := 96) rfl) rfl
theorem g1_98 : Cond.superclass RX6 "java/lang/Object" ∈ GW := gw1 (List.mem_of_getElem? (i := 98) rfl) rfl
theorem g1_99 : Cond.classLink RX7 19 RX2 ∈ GW := gw1 (List.mem_of_getElem? (i := 99) rfl) rfl
theorem g1_100 : Cond.instantiable RX2 3 ∈ GW := gw1 (List.mem_of_getElem? (i := 100) rfl) rfl
theorem g1_101 : Cond.methodLink RX7 21 yX2_init ∈ GW := gw1 (List.mem_of_getElem? (i := 101) rfl) rfl
theorem g1_102 : Cond.instanceMethod yX2_init ∈ GW := gw1 (List.mem_of_getElem? (i := 102) rfl) rfl
theorem g1_103 : Cond.code yX2_init cX2_init 2 none ∈ GW := gw1 (List.mem_of_getElem? (i := 103) rfl) rfl
theorem g1_104 : Cond.methodLink RX2 3 ⟨"java/lang/Object", "<init>", "()V"⟩ ∈ GW := gw1 (List.mem_of_getElem? (i := 104) rfl) rfl
theorem g1_105 : Cond.classLink RX2 11 RX6 ∈ GW := gw1 (List.mem_of_getElem? (i := 105) rfl) rfl
theorem g1_107 : Cond.methodLink RX2 24 yX6_init ∈ GW := gw1 (List.mem_of_getElem? (i := 107) rfl) rfl
theorem g1_108 : Cond.fieldLink RX2 13 "PenNursery$History" "states" "[LPenNursery$State;" ∈ GW := gw1 (List.mem_of_getElem? (i := 108) rfl) rfl
theorem g1_109 : Cond.fieldLink RX2 17 "PenNursery$History" "oldest" "I" ∈ GW := gw1 (List.mem_of_getElem? (i := 109) rfl) rfl
theorem g1_110 : Cond.fieldLink RX2 21 "PenNursery$History" "count" "I" ∈ GW := gw1 (List.mem_of_getElem? (i := 110) rfl) rfl
theorem g1_111 : Cond.fieldLink RX7 270 "PenNursery$History" "count" "I" ∈ GW := gw1 (List.mem_of_getElem? (i := 111) rfl) rfl
theorem g1_112 : Cond.laysFinal RX2 "PenNursery$History" "states" "[LPenNursery$State;" ∈ GW := gw1 (List.mem_of_getElem? (i := 112) rfl) rfl
theorem g1_114 : Cond.lays RX2 "PenNursery$History" "oldest" "I" ∈ GW := gw1 (List.mem_of_getElem? (i := 114) rfl) rfl
theorem g1_116 : Cond.lays RX2 "PenNursery$History" "count" "I" ∈ GW := gw1 (List.mem_of_getElem? (i := 116) rfl) rfl
theorem g1_118 : Cond.superclass RX2 "java/lang/Object" ∈ GW := gw1 (List.mem_of_getElem? (i := 118) rfl) rfl
theorem g1_119 : Cond.classLink RX7 26 RX5 ∈ GW := gw1 (List.mem_of_getElem? (i := 119) rfl) rfl
theorem g1_120 : Cond.instantiable RX5 5 ∈ GW := gw1 (List.mem_of_getElem? (i := 120) rfl) rfl
theorem g1_121 : Cond.methodLink RX7 28 yX5_init ∈ GW := gw1 (List.mem_of_getElem? (i := 121) rfl) rfl
theorem g1_122 : Cond.instanceMethod yX5_init ∈ GW := gw1 (List.mem_of_getElem? (i := 122) rfl) rfl
theorem g1_123 : Cond.code yX5_init cX5_init 2 none ∈ GW := gw1 (List.mem_of_getElem? (i := 123) rfl) rfl
theorem g1_124 : Cond.methodLink RX5 3 ⟨"java/lang/Object", "<init>", "()V"⟩ ∈ GW := gw1 (List.mem_of_getElem? (i := 124) rfl) rfl
theorem g1_125 : Cond.classLink RX5 15 RX1 ∈ GW := gw1 (List.mem_of_getElem? (i := 125) rfl) rfl
theorem g1_127 : Cond.instantiable RX1 5 ∈ GW := gw1 (List.mem_of_getElem? (i := 127) rfl) rfl
theorem g1_129 : Cond.instanceMethod yX1_init ∈ GW := gw1 (List.mem_of_getElem? (i := 129) rfl) rfl
theorem g1_130 : Cond.code yX1_init cX1_init 1 none ∈ GW := gw1 (List.mem_of_getElem? (i := 130) rfl) rfl
theorem g1_131 : Cond.methodLink RX1 3 ⟨"java/lang/Object", "<init>", "()V"⟩ ∈ GW := gw1 (List.mem_of_getElem? (i := 131) rfl) rfl
theorem g1_132 : Cond.fieldLink RX1 9 "PenNursery$Kind" "PLANT" "LPenNursery$Kind;" ∈ GW := gw1 (List.mem_of_getElem? (i := 132) rfl) rfl
theorem g1_134 : Cond.fieldLink RX1 15 "PenNursery$Command" "kind" "LPenNursery$Kind;" ∈ GW := gw1 (List.mem_of_getElem? (i := 134) rfl) rfl
theorem g1_135 : Cond.fieldLink RX6 44 "PenNursery$Command" "kind" "LPenNursery$Kind;" ∈ GW := gw1 (List.mem_of_getElem? (i := 135) rfl) rfl
theorem g1_136 : Cond.fieldLink RX1 20 "PenNursery$Command" "first" "I" ∈ GW := gw1 (List.mem_of_getElem? (i := 136) rfl) rfl
theorem g1_137 : Cond.fieldLink RX6 56 "PenNursery$Command" "first" "I" ∈ GW := gw1 (List.mem_of_getElem? (i := 137) rfl) rfl
theorem g1_138 : Cond.fieldLink RX1 24 "PenNursery$Command" "second" "I" ∈ GW := gw1 (List.mem_of_getElem? (i := 138) rfl) rfl
theorem g1_139 : Cond.fieldLink RX6 63 "PenNursery$Command" "second" "I" ∈ GW := gw1 (List.mem_of_getElem? (i := 139) rfl) rfl
theorem g1_140 : Cond.fieldLink RX1 27 "PenNursery$Command" "feather" "C" ∈ GW := gw1 (List.mem_of_getElem? (i := 140) rfl) rfl
theorem g1_141 : Cond.fieldLink RX6 59 "PenNursery$Command" "feather" "C" ∈ GW := gw1 (List.mem_of_getElem? (i := 141) rfl) rfl
theorem g1_142 : Cond.fieldLink RX5 97 "PenNursery$Command" "feather" "C" ∈ GW := gw1 (List.mem_of_getElem? (i := 142) rfl) rfl
theorem g1_143 : Cond.fieldLink RX1 31 "PenNursery$Command" "given" "I" ∈ GW := gw1 (List.mem_of_getElem? (i := 143) rfl) rfl
theorem g1_144 : Cond.lays RX1 "PenNursery$Command" "kind" "LPenNursery$Kind;" ∈ GW := gw1 (List.mem_of_getElem? (i := 144) rfl) rfl
theorem g1_146 : Cond.lays RX1 "PenNursery$Command" "first" "I" ∈ GW := gw1 (List.mem_of_getElem? (i := 146) rfl) rfl
theorem g1_148 : Cond.lays RX1 "PenNursery$Command" "second" "I" ∈ GW := gw1 (List.mem_of_getElem? (i := 148) rfl) rfl
theorem g1_150 : Cond.lays RX1 "PenNursery$Command" "feather" "C" ∈ GW := gw1 (List.mem_of_getElem? (i := 150) rfl) rfl
theorem g1_152 : Cond.lays RX1 "PenNursery$Command" "given" "I" ∈ GW := gw1 (List.mem_of_getElem? (i := 152) rfl) rfl
theorem g1_154 : Cond.superclass RX1 "java/lang/Object" ∈ GW := gw1 (List.mem_of_getElem? (i := 154) rfl) rfl
theorem g1_155 : Cond.fieldLink RX5 9 "PenNursery$Program" "signs" "[C" ∈ GW := gw1 (List.mem_of_getElem? (i := 155) rfl) rfl
theorem g1_156 : Cond.fieldLink RX5 17 "PenNursery$Program" "commands" "[LPenNursery$Command;" ∈ GW := gw1 (List.mem_of_getElem? (i := 156) rfl) rfl
theorem g1_157 : Cond.fieldLink RX7 301 "PenNursery$Program" "commands" "[LPenNursery$Command;" ∈ GW := gw1 (List.mem_of_getElem? (i := 157) rfl) rfl
theorem g1_158 : Cond.fieldLink RX5 21 "PenNursery$Program" "length" "I" ∈ GW := gw1 (List.mem_of_getElem? (i := 158) rfl) rfl
theorem g1_159 : Cond.fieldLink RX7 238 "PenNursery$Program" "length" "I" ∈ GW := gw1 (List.mem_of_getElem? (i := 159) rfl) rfl
theorem g1_160 : Cond.fieldLink RX5 25 "PenNursery$Program" "error" "I" ∈ GW := gw1 (List.mem_of_getElem? (i := 160) rfl) rfl
theorem g1_161 : Cond.fieldLink RX7 250 "PenNursery$Program" "error" "I" ∈ GW := gw1 (List.mem_of_getElem? (i := 161) rfl) rfl
theorem g1_162 : Cond.fieldLink RX5 28 "PenNursery$Program" "at" "I" ∈ GW := gw1 (List.mem_of_getElem? (i := 162) rfl) rfl
theorem g1_163 : Cond.laysFinal RX5 "PenNursery$Program" "signs" "[C" ∈ GW := gw1 (List.mem_of_getElem? (i := 163) rfl) rfl
theorem g1_165 : Cond.laysFinal RX5 "PenNursery$Program" "commands" "[LPenNursery$Command;" ∈ GW := gw1 (List.mem_of_getElem? (i := 165) rfl) rfl
theorem g1_167 : Cond.lays RX5 "PenNursery$Program" "length" "I" ∈ GW := gw1 (List.mem_of_getElem? (i := 167) rfl) rfl
theorem g1_169 : Cond.lays RX5 "PenNursery$Program" "error" "I" ∈ GW := gw1 (List.mem_of_getElem? (i := 169) rfl) rfl
theorem g1_171 : Cond.lays RX5 "PenNursery$Program" "at" "I" ∈ GW := gw1 (List.mem_of_getElem? (i := 171) rfl) rfl
theorem g1_173 : Cond.superclass RX5 "java/lang/Object" ∈ GW := gw1 (List.mem_of_getElem? (i := 173) rfl) rfl
theorem g1_174 : Cond.classLink RX7 33 RX4 ∈ GW := gw1 (List.mem_of_getElem? (i := 174) rfl) rfl
theorem g1_176 : Cond.classLink RX7 40 RJ4 ∈ GW := gw1 (List.mem_of_getElem? (i := 176) rfl) rfl
theorem g1_177 : Cond.instantiable RJ4 4 ∈ GW := gw1 (List.mem_of_getElem? (i := 177) rfl) rfl
theorem g1_178 : Cond.methodLink RX7 42 yJ4_init_da8c8 ∈ GW := gw1 (List.mem_of_getElem? (i := 178) rfl) rfl
theorem g1_179 : Cond.instanceMethod yJ4_init_da8c8 ∈ GW := gw1 (List.mem_of_getElem? (i := 179) rfl) rfl
theorem g1_180 : Cond.code yJ4_init_da8c8 cJ4_init_da8c8 1 none ∈ GW := gw1 (List.mem_of_getElem? (i := 180) rfl) rfl
theorem g1_181 : Cond.methodLink RJ4 1 yJ5_init_d00df ∈ GW := gw1 (List.mem_of_getElem? (i := 181) rfl) rfl
theorem g1_182 : Cond.instanceMethod yJ5_init_d00df ∈ GW := gw1 (List.mem_of_getElem? (i := 182) rfl) rfl
theorem g1_183 : Cond.code yJ5_init_d00df cJ5_init_d00df 2 none ∈ GW := gw1 (List.mem_of_getElem? (i := 183) rfl) rfl
theorem g1_184 : Cond.methodLink RJ5 3 ⟨"java/lang/Object", "<init>", "()V"⟩ ∈ GW := gw1 (List.mem_of_getElem? (i := 184) rfl) rfl
theorem g1_185 : Cond.fieldLink RJ5 18 "java/lang/String" "COMPACT_STRINGS" "Z" ∈ GW := gw1 (List.mem_of_getElem? (i := 185) rfl) rfl
theorem g1_187 : Cond.methodLink RJ5 26 yJ2_newBytesFor_77867 ∈ GW := gw1 (List.mem_of_getElem? (i := 187) rfl) rfl
theorem g1_188 : Cond.static yJ2_newBytesFor_77867 ∈ GW := gw1 (List.mem_of_getElem? (i := 188) rfl) rfl
theorem g1_189 : Cond.code yJ2_newBytesFor_77867 cJ2_newBytesFor_77867 1 (some (.array .byte)) ∈ GW := gw1 (List.mem_of_getElem? (i := 189) rfl) rfl
theorem g1_190 : Cond.methodLink RJ2 11 yJ2_newBytesLength_0f7a4 ∈ GW := gw1 (List.mem_of_getElem? (i := 190) rfl) rfl
theorem g1_191 : Cond.static yJ2_newBytesLength_0f7a4 ∈ GW := gw1 (List.mem_of_getElem? (i := 191) rfl) rfl
theorem g1_192 : Cond.code yJ2_newBytesLength_0f7a4 cJ2_newBytesLength_0f7a4 1 (some .int) ∈ GW := gw1 (List.mem_of_getElem? (i := 192) rfl) rfl
theorem g1_193 : Cond.constant RJ2 20 1073741823 ∈ GW := gw1 (List.mem_of_getElem? (i := 193) rfl) rfl
theorem g1_194 : Cond.fieldLink RJ5 15 "java/lang/AbstractStringBuilder" "value" "[B" ∈ GW := gw1 (List.mem_of_getElem? (i := 194) rfl) rfl
theorem g1_195 : Cond.fieldLink RJ5 22 "java/lang/AbstractStringBuilder" "coder" "B" ∈ GW := gw1 (List.mem_of_getElem? (i := 195) rfl) rfl
theorem g1_196 : Cond.fieldLink RJ5 73 "java/lang/AbstractStringBuilder" "maybeLatin1" "Z" ∈ GW := gw1 (List.mem_of_getElem? (i := 196) rfl) rfl
theorem g1_197 : Cond.fieldLink RJ0 1048 "java/lang/AbstractStringBuilder" "maybeLatin1" "Z" ∈ GW := gw1 (List.mem_of_getElem? (i := 197) rfl) rfl
theorem g1_198 : Cond.fieldLink RJ5 79 "java/lang/AbstractStringBuilder" "count" "I" ∈ GW := gw1 (List.mem_of_getElem? (i := 198) rfl) rfl
theorem g1_199 : Cond.lays RJ4 "java/lang/AbstractStringBuilder" "value" "[B" ∈ GW := gw1 (List.mem_of_getElem? (i := 199) rfl) rfl
theorem g1_201 : Cond.lays RJ4 "java/lang/AbstractStringBuilder" "coder" "B" ∈ GW := gw1 (List.mem_of_getElem? (i := 201) rfl) rfl
theorem g1_203 : Cond.lays RJ4 "java/lang/AbstractStringBuilder" "maybeLatin1" "Z" ∈ GW := gw1 (List.mem_of_getElem? (i := 203) rfl) rfl
theorem g1_205 : Cond.lays RJ4 "java/lang/AbstractStringBuilder" "count" "I" ∈ GW := gw1 (List.mem_of_getElem? (i := 205) rfl) rfl
theorem g1_207 : Cond.superclass RJ4 RJ5 ∈ GW := gw1 (List.mem_of_getElem? (i := 207) rfl) rfl
theorem g1_208 : Cond.arrayClass .byte ∈ GW := gw1 (List.mem_of_getElem? (i := 208) rfl) rfl
theorem g1_209 : Cond.fieldLink RX7 12 "PenNursery" "now" "LPenNursery$State;" ∈ GW := gw1 (List.mem_of_getElem? (i := 209) rfl) rfl
theorem g1_210 : Cond.fieldLink RX7 16 "PenNursery" "saved" "LPenNursery$State;" ∈ GW := gw1 (List.mem_of_getElem? (i := 210) rfl) rfl
theorem g1_211 : Cond.fieldLink RX7 22 "PenNursery" "history" "LPenNursery$History;" ∈ GW := gw1 (List.mem_of_getElem? (i := 211) rfl) rfl
theorem g1_212 : Cond.fieldLink RX7 29 "PenNursery" "program" "LPenNursery$Program;" ∈ GW := gw1 (List.mem_of_getElem? (i := 212) rfl) rfl
theorem g1_213 : Cond.fieldLink RX7 36 "PenNursery" "scratch" "LPenNursery$Nest;" ∈ GW := gw1 (List.mem_of_getElem? (i := 213) rfl) rfl
theorem g1_214 : Cond.fieldLink RX7 43 "PenNursery" "line" "Ljava/lang/StringBuilder;" ∈ GW := gw1 (List.mem_of_getElem? (i := 214) rfl) rfl
theorem g1_215 : Cond.fieldLink RX7 47 "PenNursery" "hasSaved" "Z" ∈ GW := gw1 (List.mem_of_getElem? (i := 215) rfl) rfl
theorem g1_216 : Cond.fieldLink RX7 51 "PenNursery" "lastError" "I" ∈ GW := gw1 (List.mem_of_getElem? (i := 216) rfl) rfl
theorem g1_217 : Cond.fieldLink RX7 55 "PenNursery" "lastFailure" "I" ∈ GW := gw1 (List.mem_of_getElem? (i := 217) rfl) rfl
theorem g1_218 : Cond.laysFinal RX7 "PenNursery" "now" "LPenNursery$State;" ∈ GW := gw1 (List.mem_of_getElem? (i := 218) rfl) rfl
theorem g1_220 : Cond.laysFinal RX7 "PenNursery" "saved" "LPenNursery$State;" ∈ GW := gw1 (List.mem_of_getElem? (i := 220) rfl) rfl
theorem g1_222 : Cond.laysFinal RX7 "PenNursery" "history" "LPenNursery$History;" ∈ GW := gw1 (List.mem_of_getElem? (i := 222) rfl) rfl
theorem g1_224 : Cond.laysFinal RX7 "PenNursery" "program" "LPenNursery$Program;" ∈ GW := gw1 (List.mem_of_getElem? (i := 224) rfl) rfl
theorem g1_226 : Cond.laysFinal RX7 "PenNursery" "scratch" "LPenNursery$Nest;" ∈ GW := gw1 (List.mem_of_getElem? (i := 226) rfl) rfl
theorem g1_228 : Cond.laysFinal RX7 "PenNursery" "line" "Ljava/lang/StringBuilder;" ∈ GW := gw1 (List.mem_of_getElem? (i := 228) rfl) rfl
theorem g1_230 : Cond.lays RX7 "PenNursery" "hasSaved" "Z" ∈ GW := gw1 (List.mem_of_getElem? (i := 230) rfl) rfl
theorem g1_232 : Cond.lays RX7 "PenNursery" "lastError" "I" ∈ GW := gw1 (List.mem_of_getElem? (i := 232) rfl) rfl
theorem g1_234 : Cond.lays RX7 "PenNursery" "lastFailure" "I" ∈ GW := gw1 (List.mem_of_getElem? (i := 234) rfl) rfl
theorem g1_236 : Cond.superclass RX7 "java/lang/Object" ∈ GW := gw1 (List.mem_of_getElem? (i := 236) rfl) rfl
theorem g1_237 : Cond.methodLink RL 189 yX7_pens ∈ GW := gw1 (List.mem_of_getElem? (i := 237) rfl) rfl
theorem g1_238 : Cond.instanceMethod yX7_pens ∈ GW := gw1 (List.mem_of_getElem? (i := 238) rfl) rfl
theorem g1_239 : Cond.selects RX7 yX7_pens yX7_pens ∈ GW := gw1 (List.mem_of_getElem? (i := 239) rfl) rfl
theorem g2_0 : Cond.code yX7_pens cX7_pens 1 (some .int) ∈ GW := gw2 (List.mem_of_getElem? (i := 0) rfl) rfl
theorem g2_1 : Cond.methodLink RX7 100 yX6_penCount ∈ GW := gw2 (List.mem_of_getElem? (i := 1) rfl) rfl
theorem g2_2 : Cond.instanceMethod yX6_penCount ∈ GW := gw2 (List.mem_of_getElem? (i := 2) rfl) rfl
theorem g2_3 : Cond.selects RX6 yX6_penCount yX6_penCount ∈ GW := gw2 (List.mem_of_getElem? (i := 3) rfl) rfl
theorem g2_4 : Cond.code yX6_penCount cX6_penCount 6 (some .int) ∈ GW := gw2 (List.mem_of_getElem? (i := 4) rfl) rfl
theorem g2_5 : Cond.methodLink RL 193 yX7_exists ∈ GW := gw2 (List.mem_of_getElem? (i := 5) rfl) rfl
theorem g2_6 : Cond.instanceMethod yX7_exists ∈ GW := gw2 (List.mem_of_getElem? (i := 6) rfl) rfl
theorem g2_7 : Cond.selects RX7 yX7_exists yX7_exists ∈ GW := gw2 (List.mem_of_getElem? (i := 7) rfl) rfl
theorem g2_8 : Cond.code yX7_exists cX7_exists 2 (some .boolean) ∈ GW := gw2 (List.mem_of_getElem? (i := 8) rfl) rfl
theorem g2_9 : Cond.methodLink RX7 104 yX6_nestWith ∈ GW := gw2 (List.mem_of_getElem? (i := 9) rfl) rfl
theorem g2_10 : Cond.instanceMethod yX6_nestWith ∈ GW := gw2 (List.mem_of_getElem? (i := 10) rfl) rfl
theorem g2_11 : Cond.selects RX6 yX6_nestWith yX6_nestWith ∈ GW := gw2 (List.mem_of_getElem? (i := 11) rfl) rfl
theorem g2_12 : Cond.code yX6_nestWith cX6_nestWith 3 (some .int) ∈ GW := gw2 (List.mem_of_getElem? (i := 12) rfl) rfl
theorem g2_13 : Cond.methodLink RX6 137 yX4_indexWith ∈ GW := gw2 (List.mem_of_getElem? (i := 13) rfl) rfl
theorem g2_14 : Cond.instanceMethod yX4_indexWith ∈ GW := gw2 (List.mem_of_getElem? (i := 14) rfl) rfl
theorem g2_15 : Cond.selects RX4 yX4_indexWith yX4_indexWith ∈ GW := gw2 (List.mem_of_getElem? (i := 15) rfl) rfl
theorem g2_16 : Cond.code yX4_indexWith cX4_indexWith 3 (some .int) ∈ GW := gw2 (List.mem_of_getElem? (i := 16) rfl) rfl
theorem g2_17 : Cond.methodLink RL 253 yX7_picked ∈ GW := gw2 (List.mem_of_getElem? (i := 17) rfl) rfl
theorem g2_18 : Cond.instanceMethod yX7_picked ∈ GW := gw2 (List.mem_of_getElem? (i := 18) rfl) rfl
theorem g2_19 : Cond.selects RX7 yX7_picked yX7_picked ∈ GW := gw2 (List.mem_of_getElem? (i := 19) rfl) rfl
theorem g2_20 : Cond.code yX7_picked cX7_picked 1 (some .int) ∈ GW := gw2 (List.mem_of_getElem? (i := 20) rfl) rfl
theorem g2_21 : Cond.methodLink RL 257 yX7_exchanges ∈ GW := gw2 (List.mem_of_getElem? (i := 21) rfl) rfl
theorem g2_22 : Cond.instanceMethod yX7_exchanges ∈ GW := gw2 (List.mem_of_getElem? (i := 22) rfl) rfl
theorem g2_23 : Cond.selects RX7 yX7_exchanges yX7_exchanges ∈ GW := gw2 (List.mem_of_getElem? (i := 23) rfl) rfl
theorem g2_24 : Cond.code yX7_exchanges cX7_exchanges 1 (some .long) ∈ GW := gw2 (List.mem_of_getElem? (i := 24) rfl) rfl
theorem g2_25 : Cond.methodLink RX7 185 yX6_exchangeCount ∈ GW := gw2 (List.mem_of_getElem? (i := 25) rfl) rfl
theorem g2_26 : Cond.instanceMethod yX6_exchangeCount ∈ GW := gw2 (List.mem_of_getElem? (i := 26) rfl) rfl
theorem g2_27 : Cond.selects RX6 yX6_exchangeCount yX6_exchangeCount ∈ GW := gw2 (List.mem_of_getElem? (i := 27) rfl) rfl
theorem g2_28 : Cond.code yX6_exchangeCount cX6_exchangeCount 7 (some .long) ∈ GW := gw2 (List.mem_of_getElem? (i := 28) rfl) rfl
theorem g2_29 : Cond.methodLink RL 269 yX7_isConsistent ∈ GW := gw2 (List.mem_of_getElem? (i := 29) rfl) rfl
theorem g2_30 : Cond.instanceMethod yX7_isConsistent ∈ GW := gw2 (List.mem_of_getElem? (i := 30) rfl) rfl
theorem g2_31 : Cond.selects RX7 yX7_isConsistent yX7_isConsistent ∈ GW := gw2 (List.mem_of_getElem? (i := 31) rfl) rfl
theorem g2_32 : Cond.code yX7_isConsistent cX7_isConsistent 5 (some .boolean) ∈ GW := gw2 (List.mem_of_getElem? (i := 32) rfl) rfl
theorem g2_33 : Cond.methodLink RX7 204 yX4_isHeap ∈ GW := gw2 (List.mem_of_getElem? (i := 33) rfl) rfl
theorem g2_34 : Cond.instanceMethod yX4_isHeap ∈ GW := gw2 (List.mem_of_getElem? (i := 34) rfl) rfl
theorem g2_35 : Cond.selects RX4 yX4_isHeap yX4_isHeap ∈ GW := gw2 (List.mem_of_getElem? (i := 35) rfl) rfl
theorem g2_36 : Cond.code yX4_isHeap cX4_isHeap 2 (some .boolean) ∈ GW := gw2 (List.mem_of_getElem? (i := 36) rfl) rfl
theorem g2_37 : Cond.methodLink RX4 51 yX4_isSharper ∈ GW := gw2 (List.mem_of_getElem? (i := 37) rfl) rfl
theorem g2_39 : Cond.instanceMethod yX4_isSharper ∈ GW := gw2 (List.mem_of_getElem? (i := 39) rfl) rfl
theorem g2_40 : Cond.code yX4_isSharper cX4_isSharper 3 (some .boolean) ∈ GW := gw2 (List.mem_of_getElem? (i := 40) rfl) rfl
theorem g2_41 : Cond.methodLink RX7 208 yX7_ranksAgree ∈ GW := gw2 (List.mem_of_getElem? (i := 41) rfl) rfl
theorem g2_43 : Cond.instanceMethod yX7_ranksAgree ∈ GW := gw2 (List.mem_of_getElem? (i := 43) rfl) rfl
theorem g2_44 : Cond.code yX7_ranksAgree cX7_ranksAgree 3 (some .boolean) ∈ GW := gw2 (List.mem_of_getElem? (i := 44) rfl) rfl
theorem g2_45 : Cond.methodLink RX7 154 yX7_findByTakingOut ∈ GW := gw2 (List.mem_of_getElem? (i := 45) rfl) rfl
theorem g2_47 : Cond.instanceMethod yX7_findByTakingOut ∈ GW := gw2 (List.mem_of_getElem? (i := 47) rfl) rfl
theorem g2_48 : Cond.code yX7_findByTakingOut cX7_findByTakingOut 4 (some .int) ∈ GW := gw2 (List.mem_of_getElem? (i := 48) rfl) rfl
theorem g2_49 : Cond.methodLink RX7 321 yX4_copyFrom ∈ GW := gw2 (List.mem_of_getElem? (i := 49) rfl) rfl
theorem g2_50 : Cond.instanceMethod yX4_copyFrom ∈ GW := gw2 (List.mem_of_getElem? (i := 50) rfl) rfl
theorem g2_51 : Cond.selects RX4 yX4_copyFrom yX4_copyFrom ∈ GW := gw2 (List.mem_of_getElem? (i := 51) rfl) rfl
theorem g2_52 : Cond.code yX4_copyFrom cX4_copyFrom 2 none ∈ GW := gw2 (List.mem_of_getElem? (i := 52) rfl) rfl
theorem g2_53 : Cond.methodLink RX4 30 ⟨RJ10, "arraycopy", "(Ljava/lang/Object;ILjava/lang/Object;II)V"⟩ ∈ GW := gw2 (List.mem_of_getElem? (i := 53) rfl) rfl
theorem g2_54 : Cond.static ⟨RJ10, "arraycopy", "(Ljava/lang/Object;ILjava/lang/Object;II)V"⟩ ∈ GW := gw2 (List.mem_of_getElem? (i := 54) rfl) rfl
theorem g2_55 : Cond.native ⟨RJ10, "arraycopy", "(Ljava/lang/Object;ILjava/lang/Object;II)V"⟩ ∈ GW := gw2 (List.mem_of_getElem? (i := 55) rfl) rfl
theorem g2_56 : Cond.methodLink RX7 324 yX4_takeOut ∈ GW := gw2 (List.mem_of_getElem? (i := 56) rfl) rfl
theorem g2_57 : Cond.instanceMethod yX4_takeOut ∈ GW := gw2 (List.mem_of_getElem? (i := 57) rfl) rfl
theorem g2_58 : Cond.selects RX4 yX4_takeOut yX4_takeOut ∈ GW := gw2 (List.mem_of_getElem? (i := 58) rfl) rfl
theorem g2_59 : Cond.code yX4_takeOut cX4_takeOut 2 none ∈ GW := gw2 (List.mem_of_getElem? (i := 59) rfl) rfl
theorem g2_60 : Cond.methodLink RX4 40 yX4_hasIndex ∈ GW := gw2 (List.mem_of_getElem? (i := 60) rfl) rfl
theorem g2_61 : Cond.instanceMethod yX4_hasIndex ∈ GW := gw2 (List.mem_of_getElem? (i := 61) rfl) rfl
theorem g2_62 : Cond.selects RX4 yX4_hasIndex yX4_hasIndex ∈ GW := gw2 (List.mem_of_getElem? (i := 62) rfl) rfl
theorem g2_63 : Cond.code yX4_hasIndex cX4_hasIndex 2 (some .boolean) ∈ GW := gw2 (List.mem_of_getElem? (i := 63) rfl) rfl
theorem g2_64 : Cond.methodLink RX4 44 yX4_put ∈ GW := gw2 (List.mem_of_getElem? (i := 64) rfl) rfl
theorem g2_66 : Cond.instanceMethod yX4_put ∈ GW := gw2 (List.mem_of_getElem? (i := 66) rfl) rfl
theorem g2_67 : Cond.code yX4_put cX4_put 3 none ∈ GW := gw2 (List.mem_of_getElem? (i := 67) rfl) rfl
theorem g2_68 : Cond.methodLink RX4 36 yX4_siftUp ∈ GW := gw2 (List.mem_of_getElem? (i := 68) rfl) rfl
theorem g2_69 : Cond.instanceMethod yX4_siftUp ∈ GW := gw2 (List.mem_of_getElem? (i := 69) rfl) rfl
theorem g2_70 : Cond.selects RX4 yX4_siftUp yX4_siftUp ∈ GW := gw2 (List.mem_of_getElem? (i := 70) rfl) rfl
theorem g2_71 : Cond.code yX4_siftUp cX4_siftUp 3 (some .int) ∈ GW := gw2 (List.mem_of_getElem? (i := 71) rfl) rfl
theorem g2_72 : Cond.methodLink RX4 55 yX4_swap ∈ GW := gw2 (List.mem_of_getElem? (i := 72) rfl) rfl
theorem g2_74 : Cond.instanceMethod yX4_swap ∈ GW := gw2 (List.mem_of_getElem? (i := 74) rfl) rfl
theorem g2_75 : Cond.code yX4_swap cX4_swap 6 none ∈ GW := gw2 (List.mem_of_getElem? (i := 75) rfl) rfl
theorem g2_76 : Cond.methodLink RX4 48 yX4_siftDown ∈ GW := gw2 (List.mem_of_getElem? (i := 76) rfl) rfl
theorem g2_77 : Cond.instanceMethod yX4_siftDown ∈ GW := gw2 (List.mem_of_getElem? (i := 77) rfl) rfl
theorem g2_78 : Cond.selects RX4 yX4_siftDown yX4_siftDown ∈ GW := gw2 (List.mem_of_getElem? (i := 78) rfl) rfl
theorem g2_79 : Cond.code yX4_siftDown cX4_siftDown 5 (some .int) ∈ GW := gw2 (List.mem_of_getElem? (i := 79) rfl) rfl
theorem g2_80 : Cond.methodLink RX7 158 yX7_findBySorting ∈ GW := gw2 (List.mem_of_getElem? (i := 80) rfl) rfl
theorem g2_82 : Cond.instanceMethod yX7_findBySorting ∈ GW := gw2 (List.mem_of_getElem? (i := 82) rfl) rfl
theorem g2_83 : Cond.code yX7_findBySorting cX7_findBySorting 3 (some .int) ∈ GW := gw2 (List.mem_of_getElem? (i := 83) rfl) rfl
theorem g2_84 : Cond.methodLink RX7 327 yX4_sortBySharpness ∈ GW := gw2 (List.mem_of_getElem? (i := 84) rfl) rfl
theorem g2_85 : Cond.instanceMethod yX4_sortBySharpness ∈ GW := gw2 (List.mem_of_getElem? (i := 85) rfl) rfl
theorem g2_86 : Cond.selects RX4 yX4_sortBySharpness yX4_sortBySharpness ∈ GW := gw2 (List.mem_of_getElem? (i := 86) rfl) rfl
theorem g2_87 : Cond.code yX4_sortBySharpness cX4_sortBySharpness 3 none ∈ GW := gw2 (List.mem_of_getElem? (i := 87) rfl) rfl
theorem g2_88 : Cond.methodLink RX7 212 yX7_countsAgree ∈ GW := gw2 (List.mem_of_getElem? (i := 88) rfl) rfl
theorem g2_90 : Cond.instanceMethod yX7_countsAgree ∈ GW := gw2 (List.mem_of_getElem? (i := 90) rfl) rfl
theorem g2_91 : Cond.code yX7_countsAgree cX7_countsAgree 3 (some .boolean) ∈ GW := gw2 (List.mem_of_getElem? (i := 91) rfl) rfl
theorem g2_92 : Cond.methodLink RX7 161 yX4_countByRecursion ∈ GW := gw2 (List.mem_of_getElem? (i := 92) rfl) rfl
theorem g2_93 : Cond.instanceMethod yX4_countByRecursion ∈ GW := gw2 (List.mem_of_getElem? (i := 93) rfl) rfl
theorem g2_94 : Cond.selects RX4 yX4_countByRecursion yX4_countByRecursion ∈ GW := gw2 (List.mem_of_getElem? (i := 94) rfl) rfl
theorem g2_95 : Cond.code yX4_countByRecursion cX4_countByRecursion 2 (some .int) ∈ GW := gw2 (List.mem_of_getElem? (i := 95) rfl) rfl
theorem g2_96 : Cond.methodLink RX4 58 yX4_walkBefore ∈ GW := gw2 (List.mem_of_getElem? (i := 96) rfl) rfl
theorem g2_97 : Cond.static yX4_walkBefore ∈ GW := gw2 (List.mem_of_getElem? (i := 97) rfl) rfl
theorem g2_98 : Cond.code yX4_walkBefore cX4_walkBefore 5 (some .int) ∈ GW := gw2 (List.mem_of_getElem? (i := 98) rfl) rfl
theorem g2_99 : Cond.methodLink RX7 164 yX4_countByScan ∈ GW := gw2 (List.mem_of_getElem? (i := 99) rfl) rfl
theorem g2_100 : Cond.instanceMethod yX4_countByScan ∈ GW := gw2 (List.mem_of_getElem? (i := 100) rfl) rfl
theorem g2_101 : Cond.selects RX4 yX4_countByScan yX4_countByScan ∈ GW := gw2 (List.mem_of_getElem? (i := 101) rfl) rfl
theorem g2_102 : Cond.code yX4_countByScan cX4_countByScan 4 (some .int) ∈ GW := gw2 (List.mem_of_getElem? (i := 102) rfl) rfl
theorem g2_103 : Cond.methodLink RL 277 yX7_writeInk ∈ GW := gw2 (List.mem_of_getElem? (i := 103) rfl) rfl
theorem g2_104 : Cond.instanceMethod yX7_writeInk ∈ GW := gw2 (List.mem_of_getElem? (i := 104) rfl) rfl
theorem g2_105 : Cond.selects RX7 yX7_writeInk yX7_writeInk ∈ GW := gw2 (List.mem_of_getElem? (i := 105) rfl) rfl
theorem g2_106 : Cond.code yX7_writeInk cX7_writeInk 2 (some .int) ∈ GW := gw2 (List.mem_of_getElem? (i := 106) rfl) rfl
theorem g2_107 : Cond.methodLink RX7 215 yJ4_setLength_d00df ∈ GW := gw2 (List.mem_of_getElem? (i := 107) rfl) rfl
theorem g2_108 : Cond.instanceMethod yJ4_setLength_d00df ∈ GW := gw2 (List.mem_of_getElem? (i := 108) rfl) rfl
theorem g2_109 : Cond.selects RJ4 yJ4_setLength_d00df yJ4_setLength_d00df ∈ GW := gw2 (List.mem_of_getElem? (i := 109) rfl) rfl
theorem g2_110 : Cond.code yJ4_setLength_d00df cJ4_setLength_d00df 2 none ∈ GW := gw2 (List.mem_of_getElem? (i := 110) rfl) rfl
theorem g2_111 : Cond.methodLink RJ4 333 yJ5_setLength_d00df ∈ GW := gw2 (List.mem_of_getElem? (i := 111) rfl) rfl
theorem g2_112 : Cond.instanceMethod yJ5_setLength_d00df ∈ GW := gw2 (List.mem_of_getElem? (i := 112) rfl) rfl
theorem g2_113 : Cond.code yJ5_setLength_d00df cJ5_setLength_d00df 2 none ∈ GW := gw2 (List.mem_of_getElem? (i := 113) rfl) rfl
theorem g2_114 : Cond.classLink RJ5 129 RJx7c733 ∈ GW := gw2 (List.mem_of_getElem? (i := 114) rfl) rfl
theorem g2_115 : Cond.instantiable RJx7c733 6 ∈ GW := gw2 (List.mem_of_getElem? (i := 115) rfl) rfl
theorem g2_116 : Cond.methodLink RJ5 131 yJx7c733_init_d00df ∈ GW := gw2 (List.mem_of_getElem? (i := 116) rfl) rfl
theorem g2_117 : Cond.instanceMethod yJx7c733_init_d00df ∈ GW := gw2 (List.mem_of_getElem? (i := 117) rfl) rfl
theorem g2_118 : Cond.code yJx7c733_init_d00df cJx7c733_init_d00df 2 none ∈ GW := gw2 (List.mem_of_getElem? (i := 118) rfl) rfl
theorem g2_119 : Cond.classLink RJx7c733 10 RJ4 ∈ GW := gw2 (List.mem_of_getElem? (i := 119) rfl) rfl
theorem g2_120 : Cond.methodLink RJx7c733 12 yJ4_init_da8c8 ∈ GW := gw2 (List.mem_of_getElem? (i := 120) rfl) rfl
theorem g2_122 : Cond.methodLink RJx7c733 15 yJ4_append_15ec4 ∈ GW := gw2 (List.mem_of_getElem? (i := 122) rfl) rfl
theorem g2_123 : Cond.instanceMethod yJ4_append_15ec4 ∈ GW := gw2 (List.mem_of_getElem? (i := 123) rfl) rfl
theorem g2_124 : Cond.selects RJ4 yJ4_append_15ec4 yJ4_append_15ec4 ∈ GW := gw2 (List.mem_of_getElem? (i := 124) rfl) rfl
theorem g2_125 : Cond.code yJ4_append_15ec4 cJ4_append_15ec4 2 (some (.object "java/lang/StringBuilder")) ∈ GW := gw2 (List.mem_of_getElem? (i := 125) rfl) rfl
theorem g2_126 : Cond.methodLink RJ4 29 yJ5_append_cf1ce ∈ GW := gw2 (List.mem_of_getElem? (i := 126) rfl) rfl
theorem g2_127 : Cond.instanceMethod yJ5_append_cf1ce ∈ GW := gw2 (List.mem_of_getElem? (i := 127) rfl) rfl
theorem g2_128 : Cond.code yJ5_append_cf1ce cJ5_append_cf1ce 3 (some (.object "java/lang/AbstractStringBuilder")) ∈ GW := gw2 (List.mem_of_getElem? (i := 128) rfl) rfl
theorem g2_129 : Cond.methodLink RJ5 204 yJ5_appendNull_278bc ∈ GW := gw2 (List.mem_of_getElem? (i := 129) rfl) rfl
theorem g2_131 : Cond.instanceMethod yJ5_appendNull_278bc ∈ GW := gw2 (List.mem_of_getElem? (i := 131) rfl) rfl
theorem g2_132 : Cond.code yJ5_appendNull_278bc cJ5_appendNull_278bc 3 (some (.object "java/lang/AbstractStringBuilder")) ∈ GW := gw2 (List.mem_of_getElem? (i := 132) rfl) rfl
theorem g2_133 : Cond.methodLink RJ5 100 yJ5_ensureCapacityInternal_d00df ∈ GW := gw2 (List.mem_of_getElem? (i := 133) rfl) rfl
theorem g2_135 : Cond.instanceMethod yJ5_ensureCapacityInternal_d00df ∈ GW := gw2 (List.mem_of_getElem? (i := 135) rfl) rfl
theorem g2_136 : Cond.code yJ5_ensureCapacityInternal_d00df cJ5_ensureCapacityInternal_d00df 3 none ∈ GW := gw2 (List.mem_of_getElem? (i := 136) rfl) rfl
theorem g2_137 : Cond.methodLink RJ5 104 yJ5_newCapacity_0f7a4 ∈ GW := gw2 (List.mem_of_getElem? (i := 137) rfl) rfl
theorem g2_139 : Cond.instanceMethod yJ5_newCapacity_0f7a4 ∈ GW := gw2 (List.mem_of_getElem? (i := 139) rfl) rfl
theorem g2_140 : Cond.code yJ5_newCapacity_0f7a4 cJ5_newCapacity_0f7a4 6 (some .int) ∈ GW := gw2 (List.mem_of_getElem? (i := 140) rfl) rfl
theorem g2_141 : Cond.methodLink RJ5 114 yJ8_newLength_cabcc ∈ GW := gw2 (List.mem_of_getElem? (i := 141) rfl) rfl
theorem g2_142 : Cond.static yJ8_newLength_cabcc ∈ GW := gw2 (List.mem_of_getElem? (i := 142) rfl) rfl
theorem g2_143 : Cond.code yJ8_newLength_cabcc cJ8_newLength_cabcc 4 (some .int) ∈ GW := gw2 (List.mem_of_getElem? (i := 143) rfl) rfl
theorem g2_144 : Cond.methodLink RJ8 194 yJ9_max_7cf53 ∈ GW := gw2 (List.mem_of_getElem? (i := 144) rfl) rfl
theorem g2_145 : Cond.static yJ9_max_7cf53 ∈ GW := gw2 (List.mem_of_getElem? (i := 145) rfl) rfl
theorem g2_146 : Cond.code yJ9_max_7cf53 cJ9_max_7cf53 2 (some .int) ∈ GW := gw2 (List.mem_of_getElem? (i := 146) rfl) rfl
theorem g2_147 : Cond.constant RJ8 200 2147483639 ∈ GW := gw2 (List.mem_of_getElem? (i := 147) rfl) rfl
theorem g2_148 : Cond.methodLink RJ8 201 yJ8_hugeLength_7cf53 ∈ GW := gw2 (List.mem_of_getElem? (i := 148) rfl) rfl
theorem g2_149 : Cond.static yJ8_hugeLength_7cf53 ∈ GW := gw2 (List.mem_of_getElem? (i := 149) rfl) rfl
theorem g2_150 : Cond.code yJ8_hugeLength_7cf53 cJ8_hugeLength_7cf53 3 (some .int) ∈ GW := gw2 (List.mem_of_getElem? (i := 150) rfl) rfl
theorem g2_151 : Cond.constant RJ5 39 2147483647 ∈ GW := gw2 (List.mem_of_getElem? (i := 151) rfl) rfl
theorem g2_152 : Cond.methodLink RJ5 108 yJ7_copyOf_9075b ∈ GW := gw2 (List.mem_of_getElem? (i := 152) rfl) rfl
theorem g2_153 : Cond.static yJ7_copyOf_9075b ∈ GW := gw2 (List.mem_of_getElem? (i := 153) rfl) rfl
theorem g2_154 : Cond.code yJ7_copyOf_9075b cJ7_copyOf_9075b 3 (some (.array .byte)) ∈ GW := gw2 (List.mem_of_getElem? (i := 154) rfl) rfl
theorem g2_155 : Cond.methodLink RJ7 310 ⟨"[B", "clone", "()Ljava/lang/Object;"⟩ ∈ GW := gw2 (List.mem_of_getElem? (i := 155) rfl) rfl
theorem g2_156 : Cond.sameMethod "[B" "java/lang/Object" "clone" "()Ljava/lang/Object;" ∈ GW := gw2 (List.mem_of_getElem? (i := 156) rfl) rfl
theorem g2_157 : Cond.native ⟨"java/lang/Object", "clone", "()Ljava/lang/Object;"⟩ ∈ GW := gw2 (List.mem_of_getElem? (i := 157) rfl) rfl
theorem g2_158 : Cond.instanceMethod ⟨"java/lang/Object", "clone", "()Ljava/lang/Object;"⟩ ∈ GW := gw2 (List.mem_of_getElem? (i := 158) rfl) rfl
theorem g2_159 : Cond.selects "[B" ⟨"[B", "clone", "()Ljava/lang/Object;"⟩ ⟨"java/lang/Object", "clone", "()Ljava/lang/Object;"⟩ ∈ GW := gw2 (List.mem_of_getElem? (i := 159) rfl) rfl
theorem g2_161 : Cond.classLink RJ7 311 "[B" ∈ GW := gw2 (List.mem_of_getElem? (i := 161) rfl) rfl
theorem g2_162 : Cond.methodLink RJ7 304 yJ9_min_7cf53 ∈ GW := gw2 (List.mem_of_getElem? (i := 162) rfl) rfl
theorem g2_163 : Cond.static yJ9_min_7cf53 ∈ GW := gw2 (List.mem_of_getElem? (i := 163) rfl) rfl
theorem g2_164 : Cond.code yJ9_min_7cf53 cJ9_min_7cf53 2 (some .int) ∈ GW := gw2 (List.mem_of_getElem? (i := 164) rfl) rfl
theorem g2_165 : Cond.methodLink RJ7 150 ⟨RJ10, "arraycopy", "(Ljava/lang/Object;ILjava/lang/Object;II)V"⟩ ∈ GW := gw2 (List.mem_of_getElem? (i := 165) rfl) rfl
theorem g2_166 : Cond.methodLink RJ5 83 yJ5_isLatin1_aae02 ∈ GW := gw2 (List.mem_of_getElem? (i := 166) rfl) rfl
theorem g2_167 : Cond.instanceMethod yJ5_isLatin1_aae02 ∈ GW := gw2 (List.mem_of_getElem? (i := 167) rfl) rfl
theorem g2_168 : Cond.sameMethod "java/lang/AbstractStringBuilder" "java/lang/AbstractStringBuilder" "isLatin1" "()Z" ∈ GW := gw2 (List.mem_of_getElem? (i := 168) rfl) rfl
theorem g2_169 : Cond.selects RJ4 yJ5_isLatin1_aae02 yJ5_isLatin1_aae02 ∈ GW := gw2 (List.mem_of_getElem? (i := 169) rfl) rfl
theorem g2_170 : Cond.code yJ5_isLatin1_aae02 cJ5_isLatin1_aae02 1 (some .boolean) ∈ GW := gw2 (List.mem_of_getElem? (i := 170) rfl) rfl
theorem g2_171 : Cond.methodLink RJ5 226 yJ2_putCharsAt_cd4e5 ∈ GW := gw2 (List.mem_of_getElem? (i := 171) rfl) rfl
theorem g2_172 : Cond.static yJ2_putCharsAt_cd4e5 ∈ GW := gw2 (List.mem_of_getElem? (i := 172) rfl) rfl
theorem g2_173 : Cond.code yJ2_putCharsAt_cd4e5 cJ2_putCharsAt_cd4e5 7 (some .int) ∈ GW := gw2 (List.mem_of_getElem? (i := 173) rfl) rfl
theorem g2_174 : Cond.methodLink RJ2 96 yJ2_checkBoundsBeginEnd_d044e ∈ GW := gw2 (List.mem_of_getElem? (i := 174) rfl) rfl
theorem g2_175 : Cond.static yJ2_checkBoundsBeginEnd_d044e ∈ GW := gw2 (List.mem_of_getElem? (i := 175) rfl) rfl
theorem g2_176 : Cond.code yJ2_checkBoundsBeginEnd_d044e cJ2_checkBoundsBeginEnd_d044e 3 none ∈ GW := gw2 (List.mem_of_getElem? (i := 176) rfl) rfl
theorem g2_177 : Cond.methodLink RJ2 48 yJ2_length_9d52b ∈ GW := gw2 (List.mem_of_getElem? (i := 177) rfl) rfl
theorem g2_178 : Cond.static yJ2_length_9d52b ∈ GW := gw2 (List.mem_of_getElem? (i := 178) rfl) rfl
theorem g2_179 : Cond.code yJ2_length_9d52b cJ2_length_9d52b 1 (some .int) ∈ GW := gw2 (List.mem_of_getElem? (i := 179) rfl) rfl
theorem g2_180 : Cond.methodLink RJ2 241 yJ0_checkBoundsBeginEnd_23922 ∈ GW := gw2 (List.mem_of_getElem? (i := 180) rfl) rfl
theorem g2_181 : Cond.static yJ0_checkBoundsBeginEnd_23922 ∈ GW := gw2 (List.mem_of_getElem? (i := 181) rfl) rfl
theorem g2_182 : Cond.code yJ0_checkBoundsBeginEnd_23922 cJ0_checkBoundsBeginEnd_23922 3 none ∈ GW := gw2 (List.mem_of_getElem? (i := 182) rfl) rfl
theorem g2_183 : Cond.fieldLink RJ0 1053 "jdk/internal/util/Preconditions" "SIOOBE_FORMATTER" "Ljava/util/function/BiFunction;" ∈ GW := gw2 (List.mem_of_getElem? (i := 183) rfl) rfl
theorem g2_185 : Cond.methodLink RJ0 1062 yJ3_checkFromToIndex_8c36e ∈ GW := gw2 (List.mem_of_getElem? (i := 185) rfl) rfl
theorem g2_186 : Cond.static yJ3_checkFromToIndex_8c36e ∈ GW := gw2 (List.mem_of_getElem? (i := 186) rfl) rfl
theorem g2_187 : Cond.code yJ3_checkFromToIndex_8c36e cJ3_checkFromToIndex_8c36e 4 (some .int) ∈ GW := gw2 (List.mem_of_getElem? (i := 187) rfl) rfl
theorem g2_188 : Cond.methodLink RJ2 111 yJ2_putChar_b72d1 ∈ GW := gw2 (List.mem_of_getElem? (i := 188) rfl) rfl
theorem g2_189 : Cond.static yJ2_putChar_b72d1 ∈ GW := gw2 (List.mem_of_getElem? (i := 189) rfl) rfl
theorem g2_190 : Cond.code yJ2_putChar_b72d1 cJ2_putChar_b72d1 3 none ∈ GW := gw2 (List.mem_of_getElem? (i := 190) rfl) rfl
theorem g2_191 : Cond.fieldLink RJ2 44 "java/lang/StringUTF16" "$assertionsDisabled" "Z" ∈ GW := gw2 (List.mem_of_getElem? (i := 191) rfl) rfl
theorem g2_193 : Cond.fieldLink RJ2 59 "java/lang/StringUTF16" "HI_BYTE_SHIFT" "I" ∈ GW := gw2 (List.mem_of_getElem? (i := 193) rfl) rfl
theorem g2_195 : Cond.fieldLink RJ2 63 "java/lang/StringUTF16" "LO_BYTE_SHIFT" "I" ∈ GW := gw2 (List.mem_of_getElem? (i := 195) rfl) rfl
theorem g2_197 : Cond.methodLink RJ5 32 yJ0_length_8abf5 ∈ GW := gw2 (List.mem_of_getElem? (i := 197) rfl) rfl
theorem g2_198 : Cond.instanceMethod yJ0_length_8abf5 ∈ GW := gw2 (List.mem_of_getElem? (i := 198) rfl) rfl
theorem g2_199 : Cond.selects RJ0 yJ0_length_8abf5 yJ0_length_8abf5 ∈ GW := gw2 (List.mem_of_getElem? (i := 199) rfl) rfl
theorem g2_200 : Cond.code yJ0_length_8abf5 cJ0_length_8abf5 1 (some .int) ∈ GW := gw2 (List.mem_of_getElem? (i := 200) rfl) rfl
theorem g2_201 : Cond.methodLink RJ0 335 yJ0_coder_7d493 ∈ GW := gw2 (List.mem_of_getElem? (i := 201) rfl) rfl
theorem g2_202 : Cond.instanceMethod yJ0_coder_7d493 ∈ GW := gw2 (List.mem_of_getElem? (i := 202) rfl) rfl
theorem g2_203 : Cond.selects RJ0 yJ0_coder_7d493 yJ0_coder_7d493 ∈ GW := gw2 (List.mem_of_getElem? (i := 203) rfl) rfl
theorem g2_204 : Cond.code yJ0_coder_7d493 cJ0_coder_7d493 1 (some .byte) ∈ GW := gw2 (List.mem_of_getElem? (i := 204) rfl) rfl
theorem g2_205 : Cond.fieldLink RJ0 38 "java/lang/String" "COMPACT_STRINGS" "Z" ∈ GW := gw2 (List.mem_of_getElem? (i := 205) rfl) rfl
theorem g2_206 : Cond.methodLink RJ5 208 yJ5_putStringAt_47b60 ∈ GW := gw2 (List.mem_of_getElem? (i := 206) rfl) rfl
theorem g2_208 : Cond.instanceMethod yJ5_putStringAt_47b60 ∈ GW := gw2 (List.mem_of_getElem? (i := 208) rfl) rfl
theorem g2_209 : Cond.code yJ5_putStringAt_47b60 cJ5_putStringAt_47b60 3 none ∈ GW := gw2 (List.mem_of_getElem? (i := 209) rfl) rfl
theorem g2_210 : Cond.methodLink RJ5 397 yJ5_inflateIfNeededFor_a7421 ∈ GW := gw2 (List.mem_of_getElem? (i := 210) rfl) rfl
theorem g2_212 : Cond.instanceMethod yJ5_inflateIfNeededFor_a7421 ∈ GW := gw2 (List.mem_of_getElem? (i := 212) rfl) rfl
theorem g2_213 : Cond.code yJ5_inflateIfNeededFor_a7421 cJ5_inflateIfNeededFor_a7421 2 none ∈ GW := gw2 (List.mem_of_getElem? (i := 213) rfl) rfl
theorem g2_214 : Cond.methodLink RJ5 40 yJ0_coder_7d493 ∈ GW := gw2 (List.mem_of_getElem? (i := 214) rfl) rfl
theorem g2_215 : Cond.methodLink RJ5 195 yJ5_inflate_da8c8 ∈ GW := gw2 (List.mem_of_getElem? (i := 215) rfl) rfl
theorem g2_217 : Cond.instanceMethod yJ5_inflate_da8c8 ∈ GW := gw2 (List.mem_of_getElem? (i := 217) rfl) rfl
theorem g2_218 : Cond.code yJ5_inflate_da8c8 cJ5_inflate_da8c8 2 none ∈ GW := gw2 (List.mem_of_getElem? (i := 218) rfl) rfl
theorem g2_219 : Cond.methodLink RJ5 125 yJ1_inflate_0e8fd ∈ GW := gw2 (List.mem_of_getElem? (i := 219) rfl) rfl
theorem g2_220 : Cond.static yJ1_inflate_0e8fd ∈ GW := gw2 (List.mem_of_getElem? (i := 220) rfl) rfl
theorem g2_221 : Cond.code yJ1_inflate_0e8fd cJ1_inflate_0e8fd 5 none ∈ GW := gw2 (List.mem_of_getElem? (i := 221) rfl) rfl
theorem g2_222 : Cond.methodLink RJ1 240 yJ2_inflate_0e8fd ∈ GW := gw2 (List.mem_of_getElem? (i := 222) rfl) rfl
theorem g2_223 : Cond.static yJ2_inflate_0e8fd ∈ GW := gw2 (List.mem_of_getElem? (i := 223) rfl) rfl
theorem g2_224 : Cond.code yJ2_inflate_0e8fd cJ2_inflate_0e8fd 6 none ∈ GW := gw2 (List.mem_of_getElem? (i := 224) rfl) rfl
theorem g2_225 : Cond.methodLink RJ2 173 yJ2_checkBoundsOffCount_d044e ∈ GW := gw2 (List.mem_of_getElem? (i := 225) rfl) rfl
theorem g2_226 : Cond.static yJ2_checkBoundsOffCount_d044e ∈ GW := gw2 (List.mem_of_getElem? (i := 226) rfl) rfl
theorem g2_227 : Cond.code yJ2_checkBoundsOffCount_d044e cJ2_checkBoundsOffCount_d044e 3 none ∈ GW := gw2 (List.mem_of_getElem? (i := 227) rfl) rfl
theorem g2_228 : Cond.methodLink RJ2 419 yJ0_checkBoundsOffCount_cabcc ∈ GW := gw2 (List.mem_of_getElem? (i := 228) rfl) rfl
theorem g2_229 : Cond.static yJ0_checkBoundsOffCount_cabcc ∈ GW := gw2 (List.mem_of_getElem? (i := 229) rfl) rfl
theorem g2_230 : Cond.code yJ0_checkBoundsOffCount_cabcc cJ0_checkBoundsOffCount_cabcc 3 (some .int) ∈ GW := gw2 (List.mem_of_getElem? (i := 230) rfl) rfl
theorem g2_231 : Cond.methodLink RJ0 1065 yJ3_checkFromIndexSize_8c36e ∈ GW := gw2 (List.mem_of_getElem? (i := 231) rfl) rfl
theorem g2_232 : Cond.static yJ3_checkFromIndexSize_8c36e ∈ GW := gw2 (List.mem_of_getElem? (i := 232) rfl) rfl
theorem g2_233 : Cond.code yJ3_checkFromIndexSize_8c36e cJ3_checkFromIndexSize_8c36e 4 (some .int) ∈ GW := gw2 (List.mem_of_getElem? (i := 233) rfl) rfl
theorem g2_234 : Cond.methodLink RJ5 399 yJ0_getBytes_840e7 ∈ GW := gw2 (List.mem_of_getElem? (i := 234) rfl) rfl
theorem g2_235 : Cond.instanceMethod yJ0_getBytes_840e7 ∈ GW := gw2 (List.mem_of_getElem? (i := 235) rfl) rfl
theorem g2_236 : Cond.selects RJ0 yJ0_getBytes_840e7 yJ0_getBytes_840e7 ∈ GW := gw2 (List.mem_of_getElem? (i := 236) rfl) rfl
theorem g2_237 : Cond.code yJ0_getBytes_840e7 cJ0_getBytes_840e7 4 none ∈ GW := gw2 (List.mem_of_getElem? (i := 237) rfl) rfl
theorem g2_238 : Cond.methodLink RJ0 212 ⟨RJ10, "arraycopy", "(Ljava/lang/Object;ILjava/lang/Object;II)V"⟩ ∈ GW := gw2 (List.mem_of_getElem? (i := 238) rfl) rfl
theorem g2_239 : Cond.methodLink RJ0 106 yJ1_inflate_0e8fd ∈ GW := gw2 (List.mem_of_getElem? (i := 239) rfl) rfl
theorem g3_0 : Cond.methodLink RJx7c733 19 yJ4_append_bf812 ∈ GW := gw3 (List.mem_of_getElem? (i := 0) rfl) rfl
theorem g3_1 : Cond.instanceMethod yJ4_append_bf812 ∈ GW := gw3 (List.mem_of_getElem? (i := 1) rfl) rfl
theorem g3_2 : Cond.selects RJ4 yJ4_append_bf812 yJ4_append_bf812 ∈ GW := gw3 (List.mem_of_getElem? (i := 2) rfl) rfl
theorem g3_3 : Cond.code yJ4_append_bf812 cJ4_append_bf812 2 (some (.object "java/lang/StringBuilder")) ∈ GW := gw3 (List.mem_of_getElem? (i := 3) rfl) rfl
theorem g3_4 : Cond.methodLink RJ4 53 yJ5_append_c97b9 ∈ GW := gw3 (List.mem_of_getElem? (i := 4) rfl) rfl
theorem g3_5 : Cond.instanceMethod yJ5_append_c97b9 ∈ GW := gw3 (List.mem_of_getElem? (i := 5) rfl) rfl
theorem g3_6 : Cond.code yJ5_append_c97b9 cJ5_append_c97b9 4 (some (.object "java/lang/AbstractStringBuilder")) ∈ GW := gw3 (List.mem_of_getElem? (i := 6) rfl) rfl
theorem g3_7 : Cond.methodLink RJ5 245 yJ6_stringSize_0f7a4 ∈ GW := gw3 (List.mem_of_getElem? (i := 7) rfl) rfl
theorem g3_8 : Cond.static yJ6_stringSize_0f7a4 ∈ GW := gw3 (List.mem_of_getElem? (i := 8) rfl) rfl
theorem g3_9 : Cond.code yJ6_stringSize_0f7a4 cJ6_stringSize_0f7a4 4 (some .int) ∈ GW := gw3 (List.mem_of_getElem? (i := 9) rfl) rfl
theorem g3_10 : Cond.methodLink RJ5 248 yJ6_getChars_ba4f3 ∈ GW := gw3 (List.mem_of_getElem? (i := 10) rfl) rfl
theorem g3_11 : Cond.static yJ6_getChars_ba4f3 ∈ GW := gw3 (List.mem_of_getElem? (i := 11) rfl) rfl
theorem g3_12 : Cond.code yJ6_getChars_ba4f3 cJ6_getChars_ba4f3 7 (some .int) ∈ GW := gw3 (List.mem_of_getElem? (i := 12) rfl) rfl
theorem g3_13 : Cond.fieldLink RJ6 83 "java/lang/Integer" "DigitOnes" "[B" ∈ GW := gw3 (List.mem_of_getElem? (i := 13) rfl) rfl
theorem g3_15 : Cond.fieldLink RJ6 87 "java/lang/Integer" "DigitTens" "[B" ∈ GW := gw3 (List.mem_of_getElem? (i := 15) rfl) rfl
theorem g3_17 : Cond.methodLink RJ5 251 yJ2_getChars_46870 ∈ GW := gw3 (List.mem_of_getElem? (i := 17) rfl) rfl
theorem g3_18 : Cond.static yJ2_getChars_46870 ∈ GW := gw3 (List.mem_of_getElem? (i := 18) rfl) rfl
theorem g3_19 : Cond.code yJ2_getChars_46870 cJ2_getChars_46870 5 (some .int) ∈ GW := gw3 (List.mem_of_getElem? (i := 19) rfl) rfl
theorem g3_20 : Cond.methodLink RJ2 393 yJ2_getChars_ba4f3 ∈ GW := gw3 (List.mem_of_getElem? (i := 20) rfl) rfl
theorem g3_21 : Cond.static yJ2_getChars_ba4f3 ∈ GW := gw3 (List.mem_of_getElem? (i := 21) rfl) rfl
theorem g3_22 : Cond.code yJ2_getChars_ba4f3 cJ2_getChars_ba4f3 7 (some .int) ∈ GW := gw3 (List.mem_of_getElem? (i := 22) rfl) rfl
theorem g3_23 : Cond.fieldLink RJ2 403 "java/lang/Integer" "DigitOnes" "[B" ∈ GW := gw3 (List.mem_of_getElem? (i := 23) rfl) rfl
theorem g3_24 : Cond.fieldLink RJ2 407 "java/lang/Integer" "DigitTens" "[B" ∈ GW := gw3 (List.mem_of_getElem? (i := 24) rfl) rfl
theorem g3_25 : Cond.methodLink RJx7c733 22 yJ4_toString_0e30d ∈ GW := gw3 (List.mem_of_getElem? (i := 25) rfl) rfl
theorem g3_26 : Cond.instanceMethod yJ4_toString_0e30d ∈ GW := gw3 (List.mem_of_getElem? (i := 26) rfl) rfl
theorem g3_27 : Cond.selects RJ4 yJ4_toString_0e30d yJ4_toString_0e30d ∈ GW := gw3 (List.mem_of_getElem? (i := 27) rfl) rfl
theorem g3_28 : Cond.code yJ4_toString_0e30d cJ4_toString_0e30d 1 (some (.object "java/lang/String")) ∈ GW := gw3 (List.mem_of_getElem? (i := 28) rfl) rfl
theorem g3_29 : Cond.classLink RJ4 18 RJ0 ∈ GW := gw3 (List.mem_of_getElem? (i := 29) rfl) rfl
theorem g3_30 : Cond.instantiable RJ0 4 ∈ GW := gw3 (List.mem_of_getElem? (i := 30) rfl) rfl
theorem g3_31 : Cond.methodLink RJ4 137 yJ0_init_81219 ∈ GW := gw3 (List.mem_of_getElem? (i := 31) rfl) rfl
theorem g3_32 : Cond.instanceMethod yJ0_init_81219 ∈ GW := gw3 (List.mem_of_getElem? (i := 32) rfl) rfl
theorem g3_33 : Cond.code yJ0_init_81219 cJ0_init_81219 2 none ∈ GW := gw3 (List.mem_of_getElem? (i := 33) rfl) rfl
theorem g3_34 : Cond.methodLink RJ0 489 yJ0_init_db425 ∈ GW := gw3 (List.mem_of_getElem? (i := 34) rfl) rfl
theorem g3_35 : Cond.instanceMethod yJ0_init_db425 ∈ GW := gw3 (List.mem_of_getElem? (i := 35) rfl) rfl
theorem g3_36 : Cond.code yJ0_init_db425 cJ0_init_db425 5 none ∈ GW := gw3 (List.mem_of_getElem? (i := 36) rfl) rfl
theorem g3_37 : Cond.methodLink RJ0 1 ⟨"java/lang/Object", "<init>", "()V"⟩ ∈ GW := gw3 (List.mem_of_getElem? (i := 37) rfl) rfl
theorem g3_38 : Cond.methodLink RJ0 552 yJ5_getValue_6d5f1 ∈ GW := gw3 (List.mem_of_getElem? (i := 38) rfl) rfl
theorem g3_39 : Cond.instanceMethod yJ5_getValue_6d5f1 ∈ GW := gw3 (List.mem_of_getElem? (i := 39) rfl) rfl
theorem g3_40 : Cond.sameMethod "java/lang/AbstractStringBuilder" "java/lang/AbstractStringBuilder" "getValue" "()[B" ∈ GW := gw3 (List.mem_of_getElem? (i := 40) rfl) rfl
theorem g3_41 : Cond.selects RJ4 yJ5_getValue_6d5f1 yJ5_getValue_6d5f1 ∈ GW := gw3 (List.mem_of_getElem? (i := 41) rfl) rfl
theorem g3_42 : Cond.code yJ5_getValue_6d5f1 cJ5_getValue_6d5f1 1 (some (.array .byte)) ∈ GW := gw3 (List.mem_of_getElem? (i := 42) rfl) rfl
theorem g3_43 : Cond.methodLink RJ0 549 yJ5_length_8abf5 ∈ GW := gw3 (List.mem_of_getElem? (i := 43) rfl) rfl
theorem g3_44 : Cond.instanceMethod yJ5_length_8abf5 ∈ GW := gw3 (List.mem_of_getElem? (i := 44) rfl) rfl
theorem g3_45 : Cond.sameMethod "java/lang/AbstractStringBuilder" "java/lang/AbstractStringBuilder" "length" "()I" ∈ GW := gw3 (List.mem_of_getElem? (i := 45) rfl) rfl
theorem g3_46 : Cond.selects RJ4 yJ5_length_8abf5 yJ4_length_8abf5 ∈ GW := gw3 (List.mem_of_getElem? (i := 46) rfl) rfl
theorem g3_47 : Cond.instanceMethod yJ4_length_8abf5 ∈ GW := gw3 (List.mem_of_getElem? (i := 47) rfl) rfl
theorem g3_48 : Cond.code yJ4_length_8abf5 cJ4_length_8abf5 1 (some .int) ∈ GW := gw3 (List.mem_of_getElem? (i := 48) rfl) rfl
theorem g3_49 : Cond.methodLink RJ4 343 yJ5_length_8abf5 ∈ GW := gw3 (List.mem_of_getElem? (i := 49) rfl) rfl
theorem g3_50 : Cond.code yJ5_length_8abf5 cJ5_length_8abf5 1 (some .int) ∈ GW := gw3 (List.mem_of_getElem? (i := 50) rfl) rfl
theorem g3_51 : Cond.methodLink RJ0 1047 yJ5_isLatin1_aae02 ∈ GW := gw3 (List.mem_of_getElem? (i := 51) rfl) rfl
theorem g3_52 : Cond.methodLink RJ0 54 yJ7_copyOfRange_39247 ∈ GW := gw3 (List.mem_of_getElem? (i := 52) rfl) rfl
theorem g3_53 : Cond.static yJ7_copyOfRange_39247 ∈ GW := gw3 (List.mem_of_getElem? (i := 53) rfl) rfl
theorem g3_54 : Cond.code yJ7_copyOfRange_39247 cJ7_copyOfRange_39247 3 (some (.array .byte)) ∈ GW := gw3 (List.mem_of_getElem? (i := 54) rfl) rfl
theorem g3_55 : Cond.methodLink RJ7 339 yJ7_copyOfRangeByte_39247 ∈ GW := gw3 (List.mem_of_getElem? (i := 55) rfl) rfl
theorem g3_56 : Cond.static yJ7_copyOfRangeByte_39247 ∈ GW := gw3 (List.mem_of_getElem? (i := 56) rfl) rfl
theorem g3_57 : Cond.code yJ7_copyOfRangeByte_39247 cJ7_copyOfRangeByte_39247 5 (some (.array .byte)) ∈ GW := gw3 (List.mem_of_getElem? (i := 57) rfl) rfl
theorem g3_58 : Cond.methodLink RJ7 343 yJ7_checkLength_df160 ∈ GW := gw3 (List.mem_of_getElem? (i := 58) rfl) rfl
theorem g3_59 : Cond.static yJ7_checkLength_df160 ∈ GW := gw3 (List.mem_of_getElem? (i := 59) rfl) rfl
theorem g3_60 : Cond.code yJ7_checkLength_df160 cJ7_checkLength_df160 2 none ∈ GW := gw3 (List.mem_of_getElem? (i := 60) rfl) rfl
theorem g3_61 : Cond.classLink RJ7 43 "java/lang/IllegalArgumentException" ∈ GW := gw3 (List.mem_of_getElem? (i := 61) rfl) rfl
theorem g3_62 : Cond.instantiable "java/lang/IllegalArgumentException" 6 ∈ GW := gw3 (List.mem_of_getElem? (i := 62) rfl) rfl
theorem g3_70 : Cond.selects "java/lang/IllegalArgumentException" ⟨"java/lang/Throwable", "fillInStackTrace", "(I)Ljava/lang/Throwable;"⟩ ⟨"java/lang/Throwable", "fillInStackTrace", "(I)Ljava/lang/Throwable;"⟩ ∈ GW := gw3 (List.mem_of_getElem? (i := 70) rfl) rfl
theorem g3_71 : Cond.selects "java/lang/IllegalArgumentException" ⟨"java/lang/Throwable", "fillInStackTrace", "()Ljava/lang/Throwable;"⟩ ⟨"java/lang/Throwable", "fillInStackTrace", "()Ljava/lang/Throwable;"⟩ ∈ GW := gw3 (List.mem_of_getElem? (i := 71) rfl) rfl
theorem g3_72 : Cond.lays "java/lang/IllegalArgumentException" "java/lang/Throwable" "cause" "Ljava/lang/Throwable;" ∈ GW := gw3 (List.mem_of_getElem? (i := 72) rfl) rfl
theorem g3_73 : Cond.lays "java/lang/Throwable" "java/lang/Throwable" "cause" "Ljava/lang/Throwable;" ∈ GW := gw3 (List.mem_of_getElem? (i := 73) rfl) rfl
theorem g3_74 : Cond.lays "java/lang/IllegalArgumentException" "java/lang/Throwable" "stackTrace" "[Ljava/lang/StackTraceElement;" ∈ GW := gw3 (List.mem_of_getElem? (i := 74) rfl) rfl
theorem g3_75 : Cond.lays "java/lang/Throwable" "java/lang/Throwable" "stackTrace" "[Ljava/lang/StackTraceElement;" ∈ GW := gw3 (List.mem_of_getElem? (i := 75) rfl) rfl
theorem g3_76 : Cond.lays "java/lang/IllegalArgumentException" "java/lang/Throwable" "suppressedExceptions" "Ljava/util/List;" ∈ GW := gw3 (List.mem_of_getElem? (i := 76) rfl) rfl
theorem g3_77 : Cond.lays "java/lang/Throwable" "java/lang/Throwable" "suppressedExceptions" "Ljava/util/List;" ∈ GW := gw3 (List.mem_of_getElem? (i := 77) rfl) rfl
theorem g3_78 : Cond.lays "java/lang/IllegalArgumentException" "java/lang/Throwable" "detailMessage" "Ljava/lang/String;" ∈ GW := gw3 (List.mem_of_getElem? (i := 78) rfl) rfl
theorem g3_79 : Cond.lays "java/lang/Throwable" "java/lang/Throwable" "detailMessage" "Ljava/lang/String;" ∈ GW := gw3 (List.mem_of_getElem? (i := 79) rfl) rfl
theorem g3_80 : Cond.lays "java/lang/IllegalArgumentException" "java/lang/Throwable" "backtrace" "Ljava/lang/Object;" ∈ GW := gw3 (List.mem_of_getElem? (i := 80) rfl) rfl
theorem g3_81 : Cond.lays "java/lang/Throwable" "java/lang/Throwable" "backtrace" "Ljava/lang/Object;" ∈ GW := gw3 (List.mem_of_getElem? (i := 81) rfl) rfl
theorem g3_82 : Cond.fieldLink "java/lang/Throwable" 198 "java/lang/Throwable" "backtrace" "Ljava/lang/Object;" ∈ GW := gw3 (List.mem_of_getElem? (i := 82) rfl) rfl
theorem g3_83 : Cond.superclass "java/lang/Throwable" "java/lang/Object" ∈ GW := gw3 (List.mem_of_getElem? (i := 83) rfl) rfl
theorem g3_84 : Cond.instanceMethod ⟨"java/lang/Throwable", "<init>", "()V"⟩ ∈ GW := gw3 (List.mem_of_getElem? (i := 84) rfl) rfl
theorem g3_85 : Cond.code ⟨"java/lang/Throwable", "<init>", "()V"⟩ prog_34_method_1_code 1 none ∈ GW := gw3 (List.mem_of_getElem? (i := 85) rfl) rfl
theorem g3_86 : Cond.methodLink "java/lang/Throwable" 1 ⟨"java/lang/Object", "<init>", "()V"⟩ ∈ GW := gw3 (List.mem_of_getElem? (i := 86) rfl) rfl
theorem g3_87 : Cond.fieldLink "java/lang/Throwable" 13 "java/lang/Throwable" "UNASSIGNED_STACK" "[Ljava/lang/StackTraceElement;" ∈ GW := gw3 (List.mem_of_getElem? (i := 87) rfl) rfl
theorem g3_89 : Cond.fieldLink "java/lang/Throwable" 20 "java/lang/Throwable" "SUPPRESSED_SENTINEL" "Ljava/util/List;" ∈ GW := gw3 (List.mem_of_getElem? (i := 89) rfl) rfl
theorem g3_91 : Cond.methodLink "java/lang/Throwable" 27 ⟨"java/lang/Throwable", "fillInStackTrace", "()Ljava/lang/Throwable;"⟩ ∈ GW := gw3 (List.mem_of_getElem? (i := 91) rfl) rfl
theorem g3_92 : Cond.instanceMethod ⟨"java/lang/Throwable", "fillInStackTrace", "()Ljava/lang/Throwable;"⟩ ∈ GW := gw3 (List.mem_of_getElem? (i := 92) rfl) rfl
theorem g3_93 : Cond.sameMethod "java/lang/Throwable" "java/lang/Throwable" "fillInStackTrace" "()Ljava/lang/Throwable;" ∈ GW := gw3 (List.mem_of_getElem? (i := 93) rfl) rfl
theorem g3_94 : Cond.selects "java/lang/ArithmeticException" ⟨"java/lang/Throwable", "fillInStackTrace", "()Ljava/lang/Throwable;"⟩ ⟨"java/lang/Throwable", "fillInStackTrace", "()Ljava/lang/Throwable;"⟩ ∈ GW := gw3 (List.mem_of_getElem? (i := 94) rfl) rfl
theorem g3_95 : Cond.selects RJx00060 ⟨"java/lang/Throwable", "fillInStackTrace", "()Ljava/lang/Throwable;"⟩ ⟨"java/lang/Throwable", "fillInStackTrace", "()Ljava/lang/Throwable;"⟩ ∈ GW := gw3 (List.mem_of_getElem? (i := 95) rfl) rfl
theorem g3_96 : Cond.selects "java/lang/IllegalStateException" ⟨"java/lang/Throwable", "fillInStackTrace", "()Ljava/lang/Throwable;"⟩ ⟨"java/lang/Throwable", "fillInStackTrace", "()Ljava/lang/Throwable;"⟩ ∈ GW := gw3 (List.mem_of_getElem? (i := 96) rfl) rfl
theorem g3_97 : Cond.selects "java/lang/IndexOutOfBoundsException" ⟨"java/lang/Throwable", "fillInStackTrace", "()Ljava/lang/Throwable;"⟩ ⟨"java/lang/Throwable", "fillInStackTrace", "()Ljava/lang/Throwable;"⟩ ∈ GW := gw3 (List.mem_of_getElem? (i := 97) rfl) rfl
theorem g3_98 : Cond.selects RJx7c733 ⟨"java/lang/Throwable", "fillInStackTrace", "()Ljava/lang/Throwable;"⟩ ⟨"java/lang/Throwable", "fillInStackTrace", "()Ljava/lang/Throwable;"⟩ ∈ GW := gw3 (List.mem_of_getElem? (i := 98) rfl) rfl
theorem g3_99 : Cond.selects "java/lang/UnsupportedOperationException" ⟨"java/lang/Throwable", "fillInStackTrace", "()Ljava/lang/Throwable;"⟩ ⟨"java/lang/Throwable", "fillInStackTrace", "()Ljava/lang/Throwable;"⟩ ∈ GW := gw3 (List.mem_of_getElem? (i := 99) rfl) rfl
theorem g3_100 : Cond.selects "java/util/NoSuchElementException" ⟨"java/lang/Throwable", "fillInStackTrace", "()Ljava/lang/Throwable;"⟩ ⟨"java/lang/Throwable", "fillInStackTrace", "()Ljava/lang/Throwable;"⟩ ∈ GW := gw3 (List.mem_of_getElem? (i := 100) rfl) rfl
theorem g3_102 : Cond.methodLink "java/lang/Throwable" 202 ⟨"java/lang/Throwable", "fillInStackTrace", "(I)Ljava/lang/Throwable;"⟩ ∈ GW := gw3 (List.mem_of_getElem? (i := 102) rfl) rfl
theorem g3_104 : Cond.instanceMethod ⟨"java/lang/Throwable", "fillInStackTrace", "(I)Ljava/lang/Throwable;"⟩ ∈ GW := gw3 (List.mem_of_getElem? (i := 104) rfl) rfl
theorem g3_105 : Cond.instantiable "java/lang/Throwable" 6 ∈ GW := gw3 (List.mem_of_getElem? (i := 105) rfl) rfl
theorem g3_106 : Cond.native ⟨"java/lang/Throwable", "fillInStackTrace", "(I)Ljava/lang/Throwable;"⟩ ∈ GW := gw3 (List.mem_of_getElem? (i := 106) rfl) rfl
theorem g3_107 : Cond.classLink RJ7 45 RJ4 ∈ GW := gw3 (List.mem_of_getElem? (i := 107) rfl) rfl
theorem g3_108 : Cond.methodLink RJ7 47 yJ4_init_da8c8 ∈ GW := gw3 (List.mem_of_getElem? (i := 108) rfl) rfl
theorem g3_109 : Cond.methodLink RJ7 54 yJ4_append_bf812 ∈ GW := gw3 (List.mem_of_getElem? (i := 109) rfl) rfl
theorem g3_111 : Cond.methodLink RJ7 50 yJ4_append_15ec4 ∈ GW := gw3 (List.mem_of_getElem? (i := 111) rfl) rfl
theorem g3_112 : Cond.methodLink RJ7 61 yJ4_toString_0e30d ∈ GW := gw3 (List.mem_of_getElem? (i := 112) rfl) rfl
theorem g3_113 : Cond.methodLink RJ7 65 ⟨"java/lang/IllegalArgumentException", "<init>", "(Ljava/lang/String;)V"⟩ ∈ GW := gw3 (List.mem_of_getElem? (i := 113) rfl) rfl
theorem g3_114 : Cond.instanceMethod ⟨"java/lang/IllegalArgumentException", "<init>", "(Ljava/lang/String;)V"⟩ ∈ GW := gw3 (List.mem_of_getElem? (i := 114) rfl) rfl
theorem g3_115 : Cond.code ⟨"java/lang/IllegalArgumentException", "<init>", "(Ljava/lang/String;)V"⟩ prog_21_method_2_code 2 none ∈ GW := gw3 (List.mem_of_getElem? (i := 115) rfl) rfl
theorem g3_116 : Cond.methodLink "java/lang/IllegalArgumentException" 7 ⟨"java/lang/RuntimeException", "<init>", "(Ljava/lang/String;)V"⟩ ∈ GW := gw3 (List.mem_of_getElem? (i := 116) rfl) rfl
theorem g3_117 : Cond.instanceMethod ⟨"java/lang/RuntimeException", "<init>", "(Ljava/lang/String;)V"⟩ ∈ GW := gw3 (List.mem_of_getElem? (i := 117) rfl) rfl
theorem g3_118 : Cond.code ⟨"java/lang/RuntimeException", "<init>", "(Ljava/lang/String;)V"⟩ prog_27_method_2_code 2 none ∈ GW := gw3 (List.mem_of_getElem? (i := 118) rfl) rfl
theorem g3_119 : Cond.methodLink "java/lang/RuntimeException" 7 ⟨"java/lang/Exception", "<init>", "(Ljava/lang/String;)V"⟩ ∈ GW := gw3 (List.mem_of_getElem? (i := 119) rfl) rfl
theorem g3_120 : Cond.instanceMethod ⟨"java/lang/Exception", "<init>", "(Ljava/lang/String;)V"⟩ ∈ GW := gw3 (List.mem_of_getElem? (i := 120) rfl) rfl
theorem g3_121 : Cond.code ⟨"java/lang/Exception", "<init>", "(Ljava/lang/String;)V"⟩ prog_20_method_2_code 2 none ∈ GW := gw3 (List.mem_of_getElem? (i := 121) rfl) rfl
theorem g3_122 : Cond.methodLink "java/lang/Exception" 7 ⟨"java/lang/Throwable", "<init>", "(Ljava/lang/String;)V"⟩ ∈ GW := gw3 (List.mem_of_getElem? (i := 122) rfl) rfl
theorem g3_123 : Cond.instanceMethod ⟨"java/lang/Throwable", "<init>", "(Ljava/lang/String;)V"⟩ ∈ GW := gw3 (List.mem_of_getElem? (i := 123) rfl) rfl
theorem g3_124 : Cond.code ⟨"java/lang/Throwable", "<init>", "(Ljava/lang/String;)V"⟩ prog_34_method_2_code 2 none ∈ GW := gw3 (List.mem_of_getElem? (i := 124) rfl) rfl
theorem g3_125 : Cond.fieldLink "java/lang/Throwable" 198 "java/lang/Throwable" "backtrace" "Ljava/lang/Object;" ∈ GW := gw3 (List.mem_of_getElem? (i := 125) rfl) rfl
theorem g3_126 : Cond.fieldLink "java/lang/Throwable" 31 "java/lang/Throwable" "detailMessage" "Ljava/lang/String;" ∈ GW := gw3 (List.mem_of_getElem? (i := 126) rfl) rfl
theorem g3_127 : Cond.fieldLink "java/lang/Throwable" 7 "java/lang/Throwable" "cause" "Ljava/lang/Throwable;" ∈ GW := gw3 (List.mem_of_getElem? (i := 127) rfl) rfl
theorem g3_128 : Cond.fieldLink "java/lang/Throwable" 17 "java/lang/Throwable" "stackTrace" "[Ljava/lang/StackTraceElement;" ∈ GW := gw3 (List.mem_of_getElem? (i := 128) rfl) rfl
theorem g3_129 : Cond.fieldLink "java/lang/Throwable" 24 "java/lang/Throwable" "suppressedExceptions" "Ljava/util/List;" ∈ GW := gw3 (List.mem_of_getElem? (i := 129) rfl) rfl
theorem g3_134 : Cond.lays "java/lang/IllegalArgumentException" "java/lang/Throwable" "depth" "I" ∈ GW := gw3 (List.mem_of_getElem? (i := 134) rfl) rfl
theorem g3_137 : Cond.superclass "java/lang/IllegalArgumentException" "java/lang/RuntimeException" ∈ GW := gw3 (List.mem_of_getElem? (i := 137) rfl) rfl
theorem g3_138 : Cond.methodLink RJ0 1051 yJ2_compress_39247 ∈ GW := gw3 (List.mem_of_getElem? (i := 138) rfl) rfl
theorem g3_139 : Cond.static yJ2_compress_39247 ∈ GW := gw3 (List.mem_of_getElem? (i := 139) rfl) rfl
theorem g3_140 : Cond.code yJ2_compress_39247 cJ2_compress_39247 6 (some (.array .byte)) ∈ GW := gw3 (List.mem_of_getElem? (i := 140) rfl) rfl
theorem g3_141 : Cond.methodLink RJ2 123 yJ2_compress_5af95 ∈ GW := gw3 (List.mem_of_getElem? (i := 141) rfl) rfl
theorem g3_142 : Cond.static yJ2_compress_5af95 ∈ GW := gw3 (List.mem_of_getElem? (i := 142) rfl) rfl
theorem g3_143 : Cond.code yJ2_compress_5af95 cJ2_compress_5af95 7 (some .int) ∈ GW := gw3 (List.mem_of_getElem? (i := 143) rfl) rfl
theorem g3_144 : Cond.methodLink RJ2 71 yJ2_getChar_3b067 ∈ GW := gw3 (List.mem_of_getElem? (i := 144) rfl) rfl
theorem g3_145 : Cond.static yJ2_getChar_3b067 ∈ GW := gw3 (List.mem_of_getElem? (i := 145) rfl) rfl
theorem g3_146 : Cond.code yJ2_getChar_3b067 cJ2_getChar_3b067 2 (some .char) ∈ GW := gw3 (List.mem_of_getElem? (i := 146) rfl) rfl
theorem g3_147 : Cond.methodLink RJ2 126 yJ7_copyOfRange_39247 ∈ GW := gw3 (List.mem_of_getElem? (i := 147) rfl) rfl
theorem g3_148 : Cond.methodLink RJ0 47 yJ2_coderFromArrayLen_85cad ∈ GW := gw3 (List.mem_of_getElem? (i := 148) rfl) rfl
theorem g3_149 : Cond.static yJ2_coderFromArrayLen_85cad ∈ GW := gw3 (List.mem_of_getElem? (i := 149) rfl) rfl
theorem g3_150 : Cond.code yJ2_coderFromArrayLen_85cad cJ2_coderFromArrayLen_85cad 2 (some .byte) ∈ GW := gw3 (List.mem_of_getElem? (i := 150) rfl) rfl
theorem g3_151 : Cond.fieldLink RJ0 9 "java/lang/String" "value" "[B" ∈ GW := gw3 (List.mem_of_getElem? (i := 151) rfl) rfl
theorem g3_152 : Cond.fieldLink RJ0 15 "java/lang/String" "coder" "B" ∈ GW := gw3 (List.mem_of_getElem? (i := 152) rfl) rfl
theorem g3_153 : Cond.laysFinal RJ0 "java/lang/String" "value" "[B" ∈ GW := gw3 (List.mem_of_getElem? (i := 153) rfl) rfl
theorem g3_155 : Cond.laysFinal RJ0 "java/lang/String" "coder" "B" ∈ GW := gw3 (List.mem_of_getElem? (i := 155) rfl) rfl
theorem g3_157 : Cond.lays RJ0 "java/lang/String" "hash" "I" ∈ GW := gw3 (List.mem_of_getElem? (i := 157) rfl) rfl
theorem g3_159 : Cond.lays RJ0 "java/lang/String" "hashIsZero" "Z" ∈ GW := gw3 (List.mem_of_getElem? (i := 159) rfl) rfl
theorem g3_161 : Cond.superclass RJ0 "java/lang/Object" ∈ GW := gw3 (List.mem_of_getElem? (i := 161) rfl) rfl
theorem g3_162 : Cond.methodLink RJx7c733 7 ⟨"java/lang/IndexOutOfBoundsException", "<init>", "(Ljava/lang/String;)V"⟩ ∈ GW := gw3 (List.mem_of_getElem? (i := 162) rfl) rfl
theorem g3_163 : Cond.instanceMethod ⟨"java/lang/IndexOutOfBoundsException", "<init>", "(Ljava/lang/String;)V"⟩ ∈ GW := gw3 (List.mem_of_getElem? (i := 163) rfl) rfl
theorem g3_164 : Cond.code ⟨"java/lang/IndexOutOfBoundsException", "<init>", "(Ljava/lang/String;)V"⟩ prog_23_method_2_code 2 none ∈ GW := gw3 (List.mem_of_getElem? (i := 164) rfl) rfl
theorem g3_165 : Cond.methodLink "java/lang/IndexOutOfBoundsException" 7 ⟨"java/lang/RuntimeException", "<init>", "(Ljava/lang/String;)V"⟩ ∈ GW := gw3 (List.mem_of_getElem? (i := 165) rfl) rfl
theorem g3_166 : Cond.lays RJx7c733 "java/lang/Throwable" "backtrace" "Ljava/lang/Object;" ∈ GW := gw3 (List.mem_of_getElem? (i := 166) rfl) rfl
theorem g3_167 : Cond.lays RJx7c733 "java/lang/Throwable" "detailMessage" "Ljava/lang/String;" ∈ GW := gw3 (List.mem_of_getElem? (i := 167) rfl) rfl
theorem g3_168 : Cond.lays RJx7c733 "java/lang/Throwable" "cause" "Ljava/lang/Throwable;" ∈ GW := gw3 (List.mem_of_getElem? (i := 168) rfl) rfl
theorem g3_169 : Cond.lays RJx7c733 "java/lang/Throwable" "stackTrace" "[Ljava/lang/StackTraceElement;" ∈ GW := gw3 (List.mem_of_getElem? (i := 169) rfl) rfl
theorem g3_170 : Cond.lays RJx7c733 "java/lang/Throwable" "depth" "I" ∈ GW := gw3 (List.mem_of_getElem? (i := 170) rfl) rfl
theorem g3_171 : Cond.lays RJx7c733 "java/lang/Throwable" "suppressedExceptions" "Ljava/util/List;" ∈ GW := gw3 (List.mem_of_getElem? (i := 171) rfl) rfl
theorem g3_172 : Cond.superclass RJx7c733 "java/lang/IndexOutOfBoundsException" ∈ GW := gw3 (List.mem_of_getElem? (i := 172) rfl) rfl
theorem g3_173 : Cond.methodLink RJ5 133 yJ1_fillNull_b72d1 ∈ GW := gw3 (List.mem_of_getElem? (i := 173) rfl) rfl
theorem g3_174 : Cond.static yJ1_fillNull_b72d1 ∈ GW := gw3 (List.mem_of_getElem? (i := 174) rfl) rfl
theorem g3_175 : Cond.code yJ1_fillNull_b72d1 cJ1_fillNull_b72d1 3 none ∈ GW := gw3 (List.mem_of_getElem? (i := 175) rfl) rfl
theorem g3_176 : Cond.methodLink RJ1 236 yJ7_fill_eb02e ∈ GW := gw3 (List.mem_of_getElem? (i := 176) rfl) rfl
theorem g3_177 : Cond.static yJ7_fill_eb02e ∈ GW := gw3 (List.mem_of_getElem? (i := 177) rfl) rfl
theorem g3_178 : Cond.code yJ7_fill_eb02e cJ7_fill_eb02e 5 none ∈ GW := gw3 (List.mem_of_getElem? (i := 178) rfl) rfl
theorem g3_179 : Cond.methodLink RJ7 13 yJ7_rangeCheck_23922 ∈ GW := gw3 (List.mem_of_getElem? (i := 179) rfl) rfl
theorem g3_180 : Cond.static yJ7_rangeCheck_23922 ∈ GW := gw3 (List.mem_of_getElem? (i := 180) rfl) rfl
theorem g3_181 : Cond.code yJ7_rangeCheck_23922 cJ7_rangeCheck_23922 3 none ∈ GW := gw3 (List.mem_of_getElem? (i := 181) rfl) rfl
theorem g3_185 : Cond.classLink RJ7 68 RJx00060 ∈ GW := gw3 (List.mem_of_getElem? (i := 185) rfl) rfl
theorem g3_186 : Cond.instantiable RJx00060 6 ∈ GW := gw3 (List.mem_of_getElem? (i := 186) rfl) rfl
theorem g3_190 : Cond.selects RJx00060 ⟨"java/lang/Throwable", "fillInStackTrace", "(I)Ljava/lang/Throwable;"⟩ ⟨"java/lang/Throwable", "fillInStackTrace", "(I)Ljava/lang/Throwable;"⟩ ∈ GW := gw3 (List.mem_of_getElem? (i := 190) rfl) rfl
theorem g3_191 : Cond.lays RJx00060 "java/lang/Throwable" "cause" "Ljava/lang/Throwable;" ∈ GW := gw3 (List.mem_of_getElem? (i := 191) rfl) rfl
theorem g3_192 : Cond.lays RJx00060 "java/lang/Throwable" "stackTrace" "[Ljava/lang/StackTraceElement;" ∈ GW := gw3 (List.mem_of_getElem? (i := 192) rfl) rfl
theorem g3_193 : Cond.lays RJx00060 "java/lang/Throwable" "suppressedExceptions" "Ljava/util/List;" ∈ GW := gw3 (List.mem_of_getElem? (i := 193) rfl) rfl
theorem g3_194 : Cond.lays RJx00060 "java/lang/Throwable" "detailMessage" "Ljava/lang/String;" ∈ GW := gw3 (List.mem_of_getElem? (i := 194) rfl) rfl
theorem g3_195 : Cond.lays RJx00060 "java/lang/Throwable" "backtrace" "Ljava/lang/Object;" ∈ GW := gw3 (List.mem_of_getElem? (i := 195) rfl) rfl
theorem g3_196 : Cond.methodLink RJ7 70 yJx00060_init_d00df ∈ GW := gw3 (List.mem_of_getElem? (i := 196) rfl) rfl
theorem g3_197 : Cond.instanceMethod yJx00060_init_d00df ∈ GW := gw3 (List.mem_of_getElem? (i := 197) rfl) rfl
theorem g3_198 : Cond.code yJx00060_init_d00df cJx00060_init_d00df 2 none ∈ GW := gw3 (List.mem_of_getElem? (i := 198) rfl) rfl
theorem g3_199 : Cond.classLink RJx00060 10 RJ4 ∈ GW := gw3 (List.mem_of_getElem? (i := 199) rfl) rfl
theorem g3_200 : Cond.methodLink RJx00060 12 yJ4_init_da8c8 ∈ GW := gw3 (List.mem_of_getElem? (i := 200) rfl) rfl
theorem g3_202 : Cond.methodLink RJx00060 15 yJ4_append_15ec4 ∈ GW := gw3 (List.mem_of_getElem? (i := 202) rfl) rfl
theorem g3_203 : Cond.methodLink RJx00060 19 yJ4_append_bf812 ∈ GW := gw3 (List.mem_of_getElem? (i := 203) rfl) rfl
theorem g3_204 : Cond.methodLink RJx00060 22 yJ4_toString_0e30d ∈ GW := gw3 (List.mem_of_getElem? (i := 204) rfl) rfl
theorem g3_205 : Cond.methodLink RJx00060 7 ⟨"java/lang/IndexOutOfBoundsException", "<init>", "(Ljava/lang/String;)V"⟩ ∈ GW := gw3 (List.mem_of_getElem? (i := 205) rfl) rfl
theorem g3_206 : Cond.lays RJx00060 "java/lang/Throwable" "depth" "I" ∈ GW := gw3 (List.mem_of_getElem? (i := 206) rfl) rfl
theorem g3_207 : Cond.superclass RJx00060 "java/lang/IndexOutOfBoundsException" ∈ GW := gw3 (List.mem_of_getElem? (i := 207) rfl) rfl
theorem g3_208 : Cond.methodLink RJ5 137 yJ2_fillNull_b72d1 ∈ GW := gw3 (List.mem_of_getElem? (i := 208) rfl) rfl
theorem g3_209 : Cond.static yJ2_fillNull_b72d1 ∈ GW := gw3 (List.mem_of_getElem? (i := 209) rfl) rfl
theorem g3_210 : Cond.code yJ2_fillNull_b72d1 cJ2_fillNull_b72d1 3 none ∈ GW := gw3 (List.mem_of_getElem? (i := 210) rfl) rfl
theorem g3_211 : Cond.methodLink RJ2 380 yJ7_fill_eb02e ∈ GW := gw3 (List.mem_of_getElem? (i := 211) rfl) rfl
theorem g3_212 : Cond.methodLink RX7 226 yJ4_length_8abf5 ∈ GW := gw3 (List.mem_of_getElem? (i := 212) rfl) rfl
theorem g3_213 : Cond.methodLink RX7 219 yJ4_append_cf468 ∈ GW := gw3 (List.mem_of_getElem? (i := 213) rfl) rfl
theorem g3_214 : Cond.instanceMethod yJ4_append_cf468 ∈ GW := gw3 (List.mem_of_getElem? (i := 214) rfl) rfl
theorem g3_215 : Cond.selects RJ4 yJ4_append_cf468 yJ4_append_cf468 ∈ GW := gw3 (List.mem_of_getElem? (i := 215) rfl) rfl
theorem g3_216 : Cond.code yJ4_append_cf468 cJ4_append_cf468 2 (some (.object "java/lang/StringBuilder")) ∈ GW := gw3 (List.mem_of_getElem? (i := 216) rfl) rfl
theorem g3_217 : Cond.methodLink RJ4 50 yJ5_append_3fe6f ∈ GW := gw3 (List.mem_of_getElem? (i := 217) rfl) rfl
theorem g3_218 : Cond.instanceMethod yJ5_append_3fe6f ∈ GW := gw3 (List.mem_of_getElem? (i := 218) rfl) rfl
theorem g3_219 : Cond.code yJ5_append_3fe6f cJ5_append_3fe6f 2 (some (.object "java/lang/AbstractStringBuilder")) ∈ GW := gw3 (List.mem_of_getElem? (i := 219) rfl) rfl
theorem g3_220 : Cond.methodLink RJ5 191 yJ1_canEncode_fc78d ∈ GW := gw3 (List.mem_of_getElem? (i := 220) rfl) rfl
theorem g3_221 : Cond.static yJ1_canEncode_fc78d ∈ GW := gw3 (List.mem_of_getElem? (i := 221) rfl) rfl
theorem g3_222 : Cond.code yJ1_canEncode_fc78d cJ1_canEncode_fc78d 1 (some .boolean) ∈ GW := gw3 (List.mem_of_getElem? (i := 222) rfl) rfl
theorem g3_223 : Cond.methodLink RJ5 197 yJ2_putCharSB_b72d1 ∈ GW := gw3 (List.mem_of_getElem? (i := 223) rfl) rfl
theorem g3_224 : Cond.static yJ2_putCharSB_b72d1 ∈ GW := gw3 (List.mem_of_getElem? (i := 224) rfl) rfl
theorem g3_225 : Cond.code yJ2_putCharSB_b72d1 cJ2_putCharSB_b72d1 3 none ∈ GW := gw3 (List.mem_of_getElem? (i := 225) rfl) rfl
theorem g3_226 : Cond.methodLink RJ2 67 yJ2_checkIndex_2214a ∈ GW := gw3 (List.mem_of_getElem? (i := 226) rfl) rfl
theorem g3_227 : Cond.static yJ2_checkIndex_2214a ∈ GW := gw3 (List.mem_of_getElem? (i := 227) rfl) rfl
theorem g3_228 : Cond.code yJ2_checkIndex_2214a cJ2_checkIndex_2214a 2 none ∈ GW := gw3 (List.mem_of_getElem? (i := 228) rfl) rfl
theorem g3_229 : Cond.methodLink RJ2 414 yJ0_checkIndex_df160 ∈ GW := gw3 (List.mem_of_getElem? (i := 229) rfl) rfl
theorem g3_230 : Cond.static yJ0_checkIndex_df160 ∈ GW := gw3 (List.mem_of_getElem? (i := 230) rfl) rfl
theorem g3_231 : Cond.code yJ0_checkIndex_df160 cJ0_checkIndex_df160 2 none ∈ GW := gw3 (List.mem_of_getElem? (i := 231) rfl) rfl
theorem g3_232 : Cond.methodLink RJ0 1059 yJ3_checkIndex_8e157 ∈ GW := gw3 (List.mem_of_getElem? (i := 232) rfl) rfl
theorem g3_233 : Cond.static yJ3_checkIndex_8e157 ∈ GW := gw3 (List.mem_of_getElem? (i := 233) rfl) rfl
theorem g3_234 : Cond.code yJ3_checkIndex_8e157 cJ3_checkIndex_8e157 3 (some .int) ∈ GW := gw3 (List.mem_of_getElem? (i := 234) rfl) rfl
theorem g3_235 : Cond.methodLink RX7 223 yJ4_append_bf812 ∈ GW := gw3 (List.mem_of_getElem? (i := 235) rfl) rfl
theorem g3_236 : Cond.methodLink RL 299 yX7_save ∈ GW := gw3 (List.mem_of_getElem? (i := 236) rfl) rfl
theorem g3_237 : Cond.instanceMethod yX7_save ∈ GW := gw3 (List.mem_of_getElem? (i := 237) rfl) rfl
theorem g3_238 : Cond.selects RX7 yX7_save yX7_save ∈ GW := gw3 (List.mem_of_getElem? (i := 238) rfl) rfl
theorem g3_239 : Cond.code yX7_save cX7_save 1 (some .int) ∈ GW := gw3 (List.mem_of_getElem? (i := 239) rfl) rfl
theorem g4_0 : Cond.methodLink RX7 279 yX6_copyFrom ∈ GW := gw4 (List.mem_of_getElem? (i := 0) rfl) rfl
theorem g4_1 : Cond.instanceMethod yX6_copyFrom ∈ GW := gw4 (List.mem_of_getElem? (i := 1) rfl) rfl
theorem g4_2 : Cond.selects RX6 yX6_copyFrom yX6_copyFrom ∈ GW := gw4 (List.mem_of_getElem? (i := 2) rfl) rfl
theorem g4_3 : Cond.code yX6_copyFrom cX6_copyFrom 3 none ∈ GW := gw4 (List.mem_of_getElem? (i := 3) rfl) rfl
theorem g4_4 : Cond.methodLink RX6 29 yX4_copyFrom ∈ GW := gw4 (List.mem_of_getElem? (i := 4) rfl) rfl
theorem g4_5 : Cond.methodLink RX6 33 ⟨RJ10, "arraycopy", "(Ljava/lang/Object;ILjava/lang/Object;II)V"⟩ ∈ GW := gw4 (List.mem_of_getElem? (i := 5) rfl) rfl
theorem g4_6 : Cond.methodLink RL 149 yL_plant ∈ GW := gw4 (List.mem_of_getElem? (i := 6) rfl) rfl
theorem g4_7 : Cond.static yL_plant ∈ GW := gw4 (List.mem_of_getElem? (i := 7) rfl) rfl
theorem g4_8 : Cond.codeWith yL_plant cL_plant 6 (some .int) [(0, 12, 15, 13), (0, 12, 19, 15), (0, 12, 23, 17)] ∈ GW := gw4 (List.mem_of_getElem? (i := 8) rfl) rfl
theorem g4_9 : Cond.classLink RL 13 "java/lang/IndexOutOfBoundsException" ∈ GW := gw4 (List.mem_of_getElem? (i := 9) rfl) rfl
theorem g4_10 : Cond.instanceMethod yJx00060_init_a7421 ∈ GW := gw4 (List.mem_of_getElem? (i := 10) rfl) rfl
theorem g4_11 : Cond.code yJx00060_init_a7421 cJx00060_init_a7421 2 none ∈ GW := gw4 (List.mem_of_getElem? (i := 11) rfl) rfl
theorem g4_12 : Cond.classLink RL 15 "java/lang/IllegalArgumentException" ∈ GW := gw4 (List.mem_of_getElem? (i := 12) rfl) rfl
theorem g4_13 : Cond.classLink RL 17 "java/lang/IllegalStateException" ∈ GW := gw4 (List.mem_of_getElem? (i := 13) rfl) rfl
theorem g4_14 : Cond.methodLink RL 7 yX7_plant ∈ GW := gw4 (List.mem_of_getElem? (i := 14) rfl) rfl
theorem g4_15 : Cond.instanceMethod yX7_plant ∈ GW := gw4 (List.mem_of_getElem? (i := 15) rfl) rfl
theorem g4_16 : Cond.selects RX7 yX7_plant yX7_plant ∈ GW := gw4 (List.mem_of_getElem? (i := 16) rfl) rfl
theorem g4_17 : Cond.code yX7_plant cX7_plant 4 (some .int) ∈ GW := gw4 (List.mem_of_getElem? (i := 17) rfl) rfl
theorem g4_18 : Cond.methodLink RX7 58 yX2_prepare ∈ GW := gw4 (List.mem_of_getElem? (i := 18) rfl) rfl
theorem g4_19 : Cond.instanceMethod yX2_prepare ∈ GW := gw4 (List.mem_of_getElem? (i := 19) rfl) rfl
theorem g4_20 : Cond.selects RX2 yX2_prepare yX2_prepare ∈ GW := gw4 (List.mem_of_getElem? (i := 20) rfl) rfl
theorem g4_21 : Cond.code yX2_prepare cX2_prepare 2 none ∈ GW := gw4 (List.mem_of_getElem? (i := 21) rfl) rfl
theorem g4_22 : Cond.methodLink RX2 25 yX2_prepared ∈ GW := gw4 (List.mem_of_getElem? (i := 22) rfl) rfl
theorem g4_23 : Cond.instanceMethod yX2_prepared ∈ GW := gw4 (List.mem_of_getElem? (i := 23) rfl) rfl
theorem g4_24 : Cond.selects RX2 yX2_prepared yX2_prepared ∈ GW := gw4 (List.mem_of_getElem? (i := 24) rfl) rfl
theorem g4_25 : Cond.code yX2_prepared cX2_prepared 1 (some (.object "PenNursery$State")) ∈ GW := gw4 (List.mem_of_getElem? (i := 25) rfl) rfl
theorem g4_26 : Cond.methodLink RX2 29 yX6_copyFrom ∈ GW := gw4 (List.mem_of_getElem? (i := 26) rfl) rfl
theorem g4_27 : Cond.methodLink RX7 62 yX6_plantPen ∈ GW := gw4 (List.mem_of_getElem? (i := 27) rfl) rfl
theorem g4_28 : Cond.instanceMethod yX6_plantPen ∈ GW := gw4 (List.mem_of_getElem? (i := 28) rfl) rfl
theorem g4_29 : Cond.selects RX6 yX6_plantPen yX6_plantPen ∈ GW := gw4 (List.mem_of_getElem? (i := 29) rfl) rfl
theorem g4_30 : Cond.code yX6_plantPen cX6_plantPen 5 (some .int) ∈ GW := gw4 (List.mem_of_getElem? (i := 30) rfl) rfl
theorem g4_32 : Cond.static yX7_isNest ∈ GW := gw4 (List.mem_of_getElem? (i := 32) rfl) rfl
theorem g4_33 : Cond.code yX7_isNest cX7_isNest 1 (some .boolean) ∈ GW := gw4 (List.mem_of_getElem? (i := 33) rfl) rfl
theorem g4_35 : Cond.static yX7_isFeather ∈ GW := gw4 (List.mem_of_getElem? (i := 35) rfl) rfl
theorem g4_36 : Cond.code yX7_isFeather cX7_isFeather 1 (some .boolean) ∈ GW := gw4 (List.mem_of_getElem? (i := 36) rfl) rfl
theorem g4_37 : Cond.methodLink RX6 109 yX6_penCount ∈ GW := gw4 (List.mem_of_getElem? (i := 37) rfl) rfl
theorem g4_38 : Cond.methodLink RX6 112 yX4_add ∈ GW := gw4 (List.mem_of_getElem? (i := 38) rfl) rfl
theorem g4_39 : Cond.instanceMethod yX4_add ∈ GW := gw4 (List.mem_of_getElem? (i := 39) rfl) rfl
theorem g4_40 : Cond.selects RX4 yX4_add yX4_add ∈ GW := gw4 (List.mem_of_getElem? (i := 40) rfl) rfl
theorem g4_41 : Cond.code yX4_add cX4_add 4 (some .int) ∈ GW := gw4 (List.mem_of_getElem? (i := 41) rfl) rfl
theorem g4_42 : Cond.methodLink RX7 66 yX7_finishChange ∈ GW := gw4 (List.mem_of_getElem? (i := 42) rfl) rfl
theorem g4_44 : Cond.instanceMethod yX7_finishChange ∈ GW := gw4 (List.mem_of_getElem? (i := 44) rfl) rfl
theorem g4_45 : Cond.code yX7_finishChange cX7_finishChange 2 (some .int) ∈ GW := gw4 (List.mem_of_getElem? (i := 45) rfl) rfl
theorem g4_46 : Cond.methodLink RX7 287 yX7_refuse ∈ GW := gw4 (List.mem_of_getElem? (i := 46) rfl) rfl
theorem g4_47 : Cond.static yX7_refuse ∈ GW := gw4 (List.mem_of_getElem? (i := 47) rfl) rfl
theorem g4_48 : Cond.code yX7_refuse cX7_refuse 1 none ∈ GW := gw4 (List.mem_of_getElem? (i := 48) rfl) rfl
theorem g4_49 : Cond.classLink RX7 229 "java/lang/IndexOutOfBoundsException" ∈ GW := gw4 (List.mem_of_getElem? (i := 49) rfl) rfl
theorem g4_50 : Cond.instantiable "java/lang/IndexOutOfBoundsException" 6 ∈ GW := gw4 (List.mem_of_getElem? (i := 50) rfl) rfl
theorem g4_52 : Cond.selects "java/lang/IndexOutOfBoundsException" ⟨"java/lang/Throwable", "fillInStackTrace", "(I)Ljava/lang/Throwable;"⟩ ⟨"java/lang/Throwable", "fillInStackTrace", "(I)Ljava/lang/Throwable;"⟩ ∈ GW := gw4 (List.mem_of_getElem? (i := 52) rfl) rfl
theorem g4_53 : Cond.lays "java/lang/IndexOutOfBoundsException" "java/lang/Throwable" "cause" "Ljava/lang/Throwable;" ∈ GW := gw4 (List.mem_of_getElem? (i := 53) rfl) rfl
theorem g4_54 : Cond.lays "java/lang/IndexOutOfBoundsException" "java/lang/Throwable" "stackTrace" "[Ljava/lang/StackTraceElement;" ∈ GW := gw4 (List.mem_of_getElem? (i := 54) rfl) rfl
theorem g4_55 : Cond.lays "java/lang/IndexOutOfBoundsException" "java/lang/Throwable" "suppressedExceptions" "Ljava/util/List;" ∈ GW := gw4 (List.mem_of_getElem? (i := 55) rfl) rfl
theorem g4_56 : Cond.lays "java/lang/IndexOutOfBoundsException" "java/lang/Throwable" "detailMessage" "Ljava/lang/String;" ∈ GW := gw4 (List.mem_of_getElem? (i := 56) rfl) rfl
theorem g4_57 : Cond.lays "java/lang/IndexOutOfBoundsException" "java/lang/Throwable" "backtrace" "Ljava/lang/Object;" ∈ GW := gw4 (List.mem_of_getElem? (i := 57) rfl) rfl
theorem g4_59 : Cond.methodLink RX7 233 ⟨"java/lang/IndexOutOfBoundsException", "<init>", "(Ljava/lang/String;)V"⟩ ∈ GW := gw4 (List.mem_of_getElem? (i := 59) rfl) rfl
theorem g4_60 : Cond.lays "java/lang/IndexOutOfBoundsException" "java/lang/Throwable" "depth" "I" ∈ GW := gw4 (List.mem_of_getElem? (i := 60) rfl) rfl
theorem g4_61 : Cond.superclass "java/lang/IndexOutOfBoundsException" "java/lang/RuntimeException" ∈ GW := gw4 (List.mem_of_getElem? (i := 61) rfl) rfl
theorem g4_62 : Cond.classLink RX7 122 "java/util/NoSuchElementException" ∈ GW := gw4 (List.mem_of_getElem? (i := 62) rfl) rfl
theorem g4_63 : Cond.instantiable "java/util/NoSuchElementException" 6 ∈ GW := gw4 (List.mem_of_getElem? (i := 63) rfl) rfl
theorem g4_65 : Cond.selects "java/util/NoSuchElementException" ⟨"java/lang/Throwable", "fillInStackTrace", "(I)Ljava/lang/Throwable;"⟩ ⟨"java/lang/Throwable", "fillInStackTrace", "(I)Ljava/lang/Throwable;"⟩ ∈ GW := gw4 (List.mem_of_getElem? (i := 65) rfl) rfl
theorem g4_66 : Cond.lays "java/util/NoSuchElementException" "java/lang/Throwable" "cause" "Ljava/lang/Throwable;" ∈ GW := gw4 (List.mem_of_getElem? (i := 66) rfl) rfl
theorem g4_67 : Cond.lays "java/util/NoSuchElementException" "java/lang/Throwable" "stackTrace" "[Ljava/lang/StackTraceElement;" ∈ GW := gw4 (List.mem_of_getElem? (i := 67) rfl) rfl
theorem g4_68 : Cond.lays "java/util/NoSuchElementException" "java/lang/Throwable" "suppressedExceptions" "Ljava/util/List;" ∈ GW := gw4 (List.mem_of_getElem? (i := 68) rfl) rfl
theorem g4_69 : Cond.lays "java/util/NoSuchElementException" "java/lang/Throwable" "detailMessage" "Ljava/lang/String;" ∈ GW := gw4 (List.mem_of_getElem? (i := 69) rfl) rfl
theorem g4_70 : Cond.lays "java/util/NoSuchElementException" "java/lang/Throwable" "backtrace" "Ljava/lang/Object;" ∈ GW := gw4 (List.mem_of_getElem? (i := 70) rfl) rfl
theorem g4_72 : Cond.methodLink RX7 126 ⟨"java/util/NoSuchElementException", "<init>", "(Ljava/lang/String;)V"⟩ ∈ GW := gw4 (List.mem_of_getElem? (i := 72) rfl) rfl
theorem g4_73 : Cond.instanceMethod ⟨"java/util/NoSuchElementException", "<init>", "(Ljava/lang/String;)V"⟩ ∈ GW := gw4 (List.mem_of_getElem? (i := 73) rfl) rfl
theorem g4_74 : Cond.code ⟨"java/util/NoSuchElementException", "<init>", "(Ljava/lang/String;)V"⟩ prog_39_method_4_code 2 none ∈ GW := gw4 (List.mem_of_getElem? (i := 74) rfl) rfl
theorem g4_75 : Cond.methodLink "java/util/NoSuchElementException" 13 ⟨"java/lang/RuntimeException", "<init>", "(Ljava/lang/String;)V"⟩ ∈ GW := gw4 (List.mem_of_getElem? (i := 75) rfl) rfl
theorem g4_76 : Cond.lays "java/util/NoSuchElementException" "java/lang/Throwable" "depth" "I" ∈ GW := gw4 (List.mem_of_getElem? (i := 76) rfl) rfl
theorem g4_77 : Cond.superclass "java/util/NoSuchElementException" "java/lang/RuntimeException" ∈ GW := gw4 (List.mem_of_getElem? (i := 77) rfl) rfl
theorem g4_78 : Cond.classLink RX7 253 "java/lang/IllegalArgumentException" ∈ GW := gw4 (List.mem_of_getElem? (i := 78) rfl) rfl
theorem g4_80 : Cond.methodLink RX7 257 ⟨"java/lang/IllegalArgumentException", "<init>", "(Ljava/lang/String;)V"⟩ ∈ GW := gw4 (List.mem_of_getElem? (i := 80) rfl) rfl
theorem g4_81 : Cond.classLink RX7 261 "java/lang/UnsupportedOperationException" ∈ GW := gw4 (List.mem_of_getElem? (i := 81) rfl) rfl
theorem g4_82 : Cond.instantiable "java/lang/UnsupportedOperationException" 6 ∈ GW := gw4 (List.mem_of_getElem? (i := 82) rfl) rfl
theorem g4_84 : Cond.selects "java/lang/UnsupportedOperationException" ⟨"java/lang/Throwable", "fillInStackTrace", "(I)Ljava/lang/Throwable;"⟩ ⟨"java/lang/Throwable", "fillInStackTrace", "(I)Ljava/lang/Throwable;"⟩ ∈ GW := gw4 (List.mem_of_getElem? (i := 84) rfl) rfl
theorem g4_85 : Cond.lays "java/lang/UnsupportedOperationException" "java/lang/Throwable" "cause" "Ljava/lang/Throwable;" ∈ GW := gw4 (List.mem_of_getElem? (i := 85) rfl) rfl
theorem g4_86 : Cond.lays "java/lang/UnsupportedOperationException" "java/lang/Throwable" "stackTrace" "[Ljava/lang/StackTraceElement;" ∈ GW := gw4 (List.mem_of_getElem? (i := 86) rfl) rfl
theorem g4_87 : Cond.lays "java/lang/UnsupportedOperationException" "java/lang/Throwable" "suppressedExceptions" "Ljava/util/List;" ∈ GW := gw4 (List.mem_of_getElem? (i := 87) rfl) rfl
theorem g4_88 : Cond.lays "java/lang/UnsupportedOperationException" "java/lang/Throwable" "detailMessage" "Ljava/lang/String;" ∈ GW := gw4 (List.mem_of_getElem? (i := 88) rfl) rfl
theorem g4_89 : Cond.lays "java/lang/UnsupportedOperationException" "java/lang/Throwable" "backtrace" "Ljava/lang/Object;" ∈ GW := gw4 (List.mem_of_getElem? (i := 89) rfl) rfl
theorem g4_91 : Cond.methodLink RX7 265 ⟨"java/lang/UnsupportedOperationException", "<init>", "(Ljava/lang/String;)V"⟩ ∈ GW := gw4 (List.mem_of_getElem? (i := 91) rfl) rfl
theorem g4_92 : Cond.instanceMethod ⟨"java/lang/UnsupportedOperationException", "<init>", "(Ljava/lang/String;)V"⟩ ∈ GW := gw4 (List.mem_of_getElem? (i := 92) rfl) rfl
theorem g4_93 : Cond.code ⟨"java/lang/UnsupportedOperationException", "<init>", "(Ljava/lang/String;)V"⟩ prog_35_method_2_code 2 none ∈ GW := gw4 (List.mem_of_getElem? (i := 93) rfl) rfl
theorem g4_94 : Cond.methodLink "java/lang/UnsupportedOperationException" 7 ⟨"java/lang/RuntimeException", "<init>", "(Ljava/lang/String;)V"⟩ ∈ GW := gw4 (List.mem_of_getElem? (i := 94) rfl) rfl
theorem g4_95 : Cond.lays "java/lang/UnsupportedOperationException" "java/lang/Throwable" "depth" "I" ∈ GW := gw4 (List.mem_of_getElem? (i := 95) rfl) rfl
theorem g4_96 : Cond.superclass "java/lang/UnsupportedOperationException" "java/lang/RuntimeException" ∈ GW := gw4 (List.mem_of_getElem? (i := 96) rfl) rfl
theorem g4_97 : Cond.classLink RX7 240 "java/lang/IllegalStateException" ∈ GW := gw4 (List.mem_of_getElem? (i := 97) rfl) rfl
theorem g4_98 : Cond.instantiable "java/lang/IllegalStateException" 6 ∈ GW := gw4 (List.mem_of_getElem? (i := 98) rfl) rfl
theorem g4_100 : Cond.selects "java/lang/IllegalStateException" ⟨"java/lang/Throwable", "fillInStackTrace", "(I)Ljava/lang/Throwable;"⟩ ⟨"java/lang/Throwable", "fillInStackTrace", "(I)Ljava/lang/Throwable;"⟩ ∈ GW := gw4 (List.mem_of_getElem? (i := 100) rfl) rfl
theorem g4_101 : Cond.lays "java/lang/IllegalStateException" "java/lang/Throwable" "cause" "Ljava/lang/Throwable;" ∈ GW := gw4 (List.mem_of_getElem? (i := 101) rfl) rfl
theorem g4_102 : Cond.lays "java/lang/IllegalStateException" "java/lang/Throwable" "stackTrace" "[Ljava/lang/StackTraceElement;" ∈ GW := gw4 (List.mem_of_getElem? (i := 102) rfl) rfl
theorem g4_103 : Cond.lays "java/lang/IllegalStateException" "java/lang/Throwable" "suppressedExceptions" "Ljava/util/List;" ∈ GW := gw4 (List.mem_of_getElem? (i := 103) rfl) rfl
theorem g4_104 : Cond.lays "java/lang/IllegalStateException" "java/lang/Throwable" "detailMessage" "Ljava/lang/String;" ∈ GW := gw4 (List.mem_of_getElem? (i := 104) rfl) rfl
theorem g4_105 : Cond.lays "java/lang/IllegalStateException" "java/lang/Throwable" "backtrace" "Ljava/lang/Object;" ∈ GW := gw4 (List.mem_of_getElem? (i := 105) rfl) rfl
theorem g4_107 : Cond.methodLink RX7 244 ⟨"java/lang/IllegalStateException", "<init>", "(Ljava/lang/String;)V"⟩ ∈ GW := gw4 (List.mem_of_getElem? (i := 107) rfl) rfl
theorem g4_108 : Cond.instanceMethod ⟨"java/lang/IllegalStateException", "<init>", "(Ljava/lang/String;)V"⟩ ∈ GW := gw4 (List.mem_of_getElem? (i := 108) rfl) rfl
theorem g4_109 : Cond.code ⟨"java/lang/IllegalStateException", "<init>", "(Ljava/lang/String;)V"⟩ prog_22_method_2_code 2 none ∈ GW := gw4 (List.mem_of_getElem? (i := 109) rfl) rfl
theorem g4_110 : Cond.methodLink "java/lang/IllegalStateException" 7 ⟨"java/lang/RuntimeException", "<init>", "(Ljava/lang/String;)V"⟩ ∈ GW := gw4 (List.mem_of_getElem? (i := 110) rfl) rfl
theorem g4_111 : Cond.lays "java/lang/IllegalStateException" "java/lang/Throwable" "depth" "I" ∈ GW := gw4 (List.mem_of_getElem? (i := 111) rfl) rfl
theorem g4_112 : Cond.superclass "java/lang/IllegalStateException" "java/lang/RuntimeException" ∈ GW := gw4 (List.mem_of_getElem? (i := 112) rfl) rfl
theorem g4_113 : Cond.methodLink RX7 290 yX2_keepPrepared ∈ GW := gw4 (List.mem_of_getElem? (i := 113) rfl) rfl
theorem g4_114 : Cond.instanceMethod yX2_keepPrepared ∈ GW := gw4 (List.mem_of_getElem? (i := 114) rfl) rfl
theorem g4_115 : Cond.selects RX2 yX2_keepPrepared yX2_keepPrepared ∈ GW := gw4 (List.mem_of_getElem? (i := 115) rfl) rfl
theorem g4_116 : Cond.code yX2_keepPrepared cX2_keepPrepared 1 none ∈ GW := gw4 (List.mem_of_getElem? (i := 116) rfl) rfl
theorem g4_117 : Cond.methodLink RL 158 yL_pick ∈ GW := gw4 (List.mem_of_getElem? (i := 117) rfl) rfl
theorem g4_118 : Cond.static yL_pick ∈ GW := gw4 (List.mem_of_getElem? (i := 118) rfl) rfl
theorem g4_119 : Cond.codeWith yL_pick cL_pick 4 (some .int) [(0, 9, 12, 13), (0, 9, 15, 23), (0, 9, 18, 25)] ∈ GW := gw4 (List.mem_of_getElem? (i := 119) rfl) rfl
theorem g4_120 : Cond.classLink RL 23 "java/util/NoSuchElementException" ∈ GW := gw4 (List.mem_of_getElem? (i := 120) rfl) rfl
theorem g4_121 : Cond.classLink RL 25 "java/lang/UnsupportedOperationException" ∈ GW := gw4 (List.mem_of_getElem? (i := 121) rfl) rfl
theorem g4_122 : Cond.methodLink RL 19 yX7_pick ∈ GW := gw4 (List.mem_of_getElem? (i := 122) rfl) rfl
theorem g4_123 : Cond.instanceMethod yX7_pick ∈ GW := gw4 (List.mem_of_getElem? (i := 123) rfl) rfl
theorem g4_124 : Cond.selects RX7 yX7_pick yX7_pick ∈ GW := gw4 (List.mem_of_getElem? (i := 124) rfl) rfl
theorem g4_125 : Cond.code yX7_pick cX7_pick 2 (some .int) ∈ GW := gw4 (List.mem_of_getElem? (i := 125) rfl) rfl
theorem g4_126 : Cond.methodLink RX7 70 yX6_pickPen ∈ GW := gw4 (List.mem_of_getElem? (i := 126) rfl) rfl
theorem g4_127 : Cond.instanceMethod yX6_pickPen ∈ GW := gw4 (List.mem_of_getElem? (i := 127) rfl) rfl
theorem g4_128 : Cond.selects RX6 yX6_pickPen yX6_pickPen ∈ GW := gw4 (List.mem_of_getElem? (i := 128) rfl) rfl
theorem g4_129 : Cond.code yX6_pickPen cX6_pickPen 5 (some .int) ∈ GW := gw4 (List.mem_of_getElem? (i := 129) rfl) rfl
theorem g4_130 : Cond.methodLink RX6 125 yX4_takeOut ∈ GW := gw4 (List.mem_of_getElem? (i := 130) rfl) rfl
theorem g4_131 : Cond.methodLink RL 162 yL_addInk ∈ GW := gw4 (List.mem_of_getElem? (i := 131) rfl) rfl
theorem g4_132 : Cond.static yL_addInk ∈ GW := gw4 (List.mem_of_getElem? (i := 132) rfl) rfl
theorem g4_133 : Cond.codeWith yL_addInk cL_addInk 5 (some .int) [(0, 10, 13, 15)] ∈ GW := gw4 (List.mem_of_getElem? (i := 133) rfl) rfl
theorem g4_134 : Cond.methodLink RL 27 yX7_addInk ∈ GW := gw4 (List.mem_of_getElem? (i := 134) rfl) rfl
theorem g4_135 : Cond.instanceMethod yX7_addInk ∈ GW := gw4 (List.mem_of_getElem? (i := 135) rfl) rfl
theorem g4_136 : Cond.selects RX7 yX7_addInk yX7_addInk ∈ GW := gw4 (List.mem_of_getElem? (i := 136) rfl) rfl
theorem g4_137 : Cond.code yX7_addInk cX7_addInk 3 (some .int) ∈ GW := gw4 (List.mem_of_getElem? (i := 137) rfl) rfl
theorem g4_138 : Cond.methodLink RX7 73 yX6_pourInk ∈ GW := gw4 (List.mem_of_getElem? (i := 138) rfl) rfl
theorem g4_139 : Cond.instanceMethod yX6_pourInk ∈ GW := gw4 (List.mem_of_getElem? (i := 139) rfl) rfl
theorem g4_140 : Cond.selects RX6 yX6_pourInk yX6_pourInk ∈ GW := gw4 (List.mem_of_getElem? (i := 140) rfl) rfl
theorem g4_141 : Cond.code yX6_pourInk cX6_pourInk 4 (some .int) ∈ GW := gw4 (List.mem_of_getElem? (i := 141) rfl) rfl
theorem g4_142 : Cond.methodLink RX6 129 yJ9_min_7cf53 ∈ GW := gw4 (List.mem_of_getElem? (i := 142) rfl) rfl
theorem g4_143 : Cond.methodLink RL 166 yL_sharpen ∈ GW := gw4 (List.mem_of_getElem? (i := 143) rfl) rfl
theorem g4_144 : Cond.static yL_sharpen ∈ GW := gw4 (List.mem_of_getElem? (i := 144) rfl) rfl
theorem g4_145 : Cond.codeWith yL_sharpen cL_sharpen 5 (some .int) [(0, 10, 13, 23), (0, 10, 17, 15)] ∈ GW := gw4 (List.mem_of_getElem? (i := 145) rfl) rfl
theorem g4_146 : Cond.methodLink RL 31 yX7_sharpen ∈ GW := gw4 (List.mem_of_getElem? (i := 146) rfl) rfl
theorem g4_147 : Cond.instanceMethod yX7_sharpen ∈ GW := gw4 (List.mem_of_getElem? (i := 147) rfl) rfl
theorem g4_148 : Cond.selects RX7 yX7_sharpen yX7_sharpen ∈ GW := gw4 (List.mem_of_getElem? (i := 148) rfl) rfl
theorem g4_149 : Cond.code yX7_sharpen cX7_sharpen 3 (some .int) ∈ GW := gw4 (List.mem_of_getElem? (i := 149) rfl) rfl
theorem g4_150 : Cond.methodLink RX7 77 yX6_sharpenPen ∈ GW := gw4 (List.mem_of_getElem? (i := 150) rfl) rfl
theorem g4_151 : Cond.instanceMethod yX6_sharpenPen ∈ GW := gw4 (List.mem_of_getElem? (i := 151) rfl) rfl
theorem g4_152 : Cond.selects RX6 yX6_sharpenPen yX6_sharpenPen ∈ GW := gw4 (List.mem_of_getElem? (i := 152) rfl) rfl
theorem g4_153 : Cond.code yX6_sharpenPen cX6_sharpenPen 6 (some .int) ∈ GW := gw4 (List.mem_of_getElem? (i := 153) rfl) rfl
theorem g4_154 : Cond.methodLink RX6 134 yX6_nestWith ∈ GW := gw4 (List.mem_of_getElem? (i := 154) rfl) rfl
theorem g4_155 : Cond.methodLink RX6 143 yJ9_max_7cf53 ∈ GW := gw4 (List.mem_of_getElem? (i := 155) rfl) rfl
theorem g4_156 : Cond.methodLink RX6 146 yX4_siftUp ∈ GW := gw4 (List.mem_of_getElem? (i := 156) rfl) rfl
theorem g4_157 : Cond.methodLink RL 170 yL_blunt ∈ GW := gw4 (List.mem_of_getElem? (i := 157) rfl) rfl
theorem g4_158 : Cond.static yL_blunt ∈ GW := gw4 (List.mem_of_getElem? (i := 158) rfl) rfl
theorem g4_159 : Cond.codeWith yL_blunt cL_blunt 5 (some .int) [(0, 10, 13, 23), (0, 10, 17, 15)] ∈ GW := gw4 (List.mem_of_getElem? (i := 159) rfl) rfl
theorem g4_160 : Cond.methodLink RL 35 yX7_blunt ∈ GW := gw4 (List.mem_of_getElem? (i := 160) rfl) rfl
theorem g4_161 : Cond.instanceMethod yX7_blunt ∈ GW := gw4 (List.mem_of_getElem? (i := 161) rfl) rfl
theorem g4_162 : Cond.selects RX7 yX7_blunt yX7_blunt ∈ GW := gw4 (List.mem_of_getElem? (i := 162) rfl) rfl
theorem g4_163 : Cond.code yX7_blunt cX7_blunt 3 (some .int) ∈ GW := gw4 (List.mem_of_getElem? (i := 163) rfl) rfl
theorem g4_164 : Cond.methodLink RX7 81 yX6_bluntPen ∈ GW := gw4 (List.mem_of_getElem? (i := 164) rfl) rfl
theorem g4_165 : Cond.instanceMethod yX6_bluntPen ∈ GW := gw4 (List.mem_of_getElem? (i := 165) rfl) rfl
theorem g4_166 : Cond.selects RX6 yX6_bluntPen yX6_bluntPen ∈ GW := gw4 (List.mem_of_getElem? (i := 166) rfl) rfl
theorem g4_167 : Cond.code yX6_bluntPen cX6_bluntPen 6 (some .int) ∈ GW := gw4 (List.mem_of_getElem? (i := 167) rfl) rfl
theorem g4_168 : Cond.methodLink RX6 149 yX4_siftDown ∈ GW := gw4 (List.mem_of_getElem? (i := 168) rfl) rfl
theorem g4_169 : Cond.methodLink RL 173 yL_uproot ∈ GW := gw4 (List.mem_of_getElem? (i := 169) rfl) rfl
theorem g4_170 : Cond.static yL_uproot ∈ GW := gw4 (List.mem_of_getElem? (i := 170) rfl) rfl
theorem g4_171 : Cond.codeWith yL_uproot cL_uproot 4 (some .int) [(0, 9, 12, 23)] ∈ GW := gw4 (List.mem_of_getElem? (i := 171) rfl) rfl
theorem g4_172 : Cond.methodLink RL 38 yX7_uproot ∈ GW := gw4 (List.mem_of_getElem? (i := 172) rfl) rfl
theorem g4_173 : Cond.instanceMethod yX7_uproot ∈ GW := gw4 (List.mem_of_getElem? (i := 173) rfl) rfl
theorem g4_174 : Cond.selects RX7 yX7_uproot yX7_uproot ∈ GW := gw4 (List.mem_of_getElem? (i := 174) rfl) rfl
theorem g4_175 : Cond.code yX7_uproot cX7_uproot 2 (some .int) ∈ GW := gw4 (List.mem_of_getElem? (i := 175) rfl) rfl
theorem g4_176 : Cond.methodLink RX7 84 yX6_uprootPen ∈ GW := gw4 (List.mem_of_getElem? (i := 176) rfl) rfl
theorem g4_177 : Cond.instanceMethod yX6_uprootPen ∈ GW := gw4 (List.mem_of_getElem? (i := 177) rfl) rfl
theorem g4_178 : Cond.selects RX6 yX6_uprootPen yX6_uprootPen ∈ GW := gw4 (List.mem_of_getElem? (i := 178) rfl) rfl
theorem g4_179 : Cond.code yX6_uprootPen cX6_uprootPen 6 (some .int) ∈ GW := gw4 (List.mem_of_getElem? (i := 179) rfl) rfl
theorem g4_180 : Cond.methodLink RL 176 yL_move ∈ GW := gw4 (List.mem_of_getElem? (i := 180) rfl) rfl
theorem g4_181 : Cond.static yL_move ∈ GW := gw4 (List.mem_of_getElem? (i := 181) rfl) rfl
theorem g4_182 : Cond.codeWith yL_move cL_move 5 (some .int) [(0, 10, 13, 23), (0, 10, 17, 13), (0, 10, 21, 17)] ∈ GW := gw4 (List.mem_of_getElem? (i := 182) rfl) rfl
theorem g4_183 : Cond.methodLink RL 41 yX7_move ∈ GW := gw4 (List.mem_of_getElem? (i := 183) rfl) rfl
theorem g4_184 : Cond.instanceMethod yX7_move ∈ GW := gw4 (List.mem_of_getElem? (i := 184) rfl) rfl
theorem g4_185 : Cond.selects RX7 yX7_move yX7_move ∈ GW := gw4 (List.mem_of_getElem? (i := 185) rfl) rfl
theorem g4_186 : Cond.code yX7_move cX7_move 3 (some .int) ∈ GW := gw4 (List.mem_of_getElem? (i := 186) rfl) rfl
theorem g4_187 : Cond.methodLink RX7 87 yX6_movePen ∈ GW := gw4 (List.mem_of_getElem? (i := 187) rfl) rfl
theorem g4_188 : Cond.instanceMethod yX6_movePen ∈ GW := gw4 (List.mem_of_getElem? (i := 188) rfl) rfl
theorem g4_189 : Cond.selects RX6 yX6_movePen yX6_movePen ∈ GW := gw4 (List.mem_of_getElem? (i := 189) rfl) rfl
theorem g4_190 : Cond.code yX6_movePen cX6_movePen 8 (some .int) ∈ GW := gw4 (List.mem_of_getElem? (i := 190) rfl) rfl
theorem g4_191 : Cond.methodLink RL 179 yL_merge ∈ GW := gw4 (List.mem_of_getElem? (i := 191) rfl) rfl
theorem g4_192 : Cond.static yL_merge ∈ GW := gw4 (List.mem_of_getElem? (i := 192) rfl) rfl
theorem g4_193 : Cond.codeWith yL_merge cL_merge 5 (some .int) [(0, 10, 13, 13), (0, 10, 17, 15)] ∈ GW := gw4 (List.mem_of_getElem? (i := 193) rfl) rfl
theorem g4_194 : Cond.methodLink RL 44 yX7_merge ∈ GW := gw4 (List.mem_of_getElem? (i := 194) rfl) rfl
theorem g4_195 : Cond.instanceMethod yX7_merge ∈ GW := gw4 (List.mem_of_getElem? (i := 195) rfl) rfl
theorem g4_196 : Cond.selects RX7 yX7_merge yX7_merge ∈ GW := gw4 (List.mem_of_getElem? (i := 196) rfl) rfl
theorem g4_197 : Cond.code yX7_merge cX7_merge 3 (some .int) ∈ GW := gw4 (List.mem_of_getElem? (i := 197) rfl) rfl
theorem g4_198 : Cond.methodLink RX7 90 yX6_mergeNests ∈ GW := gw4 (List.mem_of_getElem? (i := 198) rfl) rfl
theorem g4_199 : Cond.instanceMethod yX6_mergeNests ∈ GW := gw4 (List.mem_of_getElem? (i := 199) rfl) rfl
theorem g4_200 : Cond.selects RX6 yX6_mergeNests yX6_mergeNests ∈ GW := gw4 (List.mem_of_getElem? (i := 200) rfl) rfl
theorem g4_201 : Cond.code yX6_mergeNests cX6_mergeNests 6 (some .int) ∈ GW := gw4 (List.mem_of_getElem? (i := 201) rfl) rfl
theorem g4_202 : Cond.methodLink RL 182 yL_reorder ∈ GW := gw4 (List.mem_of_getElem? (i := 202) rfl) rfl
theorem g4_203 : Cond.static yL_reorder ∈ GW := gw4 (List.mem_of_getElem? (i := 203) rfl) rfl
theorem g4_204 : Cond.codeWith yL_reorder cL_reorder 4 (some .int) [(0, 9, 12, 13)] ∈ GW := gw4 (List.mem_of_getElem? (i := 204) rfl) rfl
theorem g4_205 : Cond.methodLink RL 47 yX7_reorder ∈ GW := gw4 (List.mem_of_getElem? (i := 205) rfl) rfl
theorem g4_206 : Cond.instanceMethod yX7_reorder ∈ GW := gw4 (List.mem_of_getElem? (i := 206) rfl) rfl
theorem g4_207 : Cond.selects RX7 yX7_reorder yX7_reorder ∈ GW := gw4 (List.mem_of_getElem? (i := 207) rfl) rfl
theorem g4_208 : Cond.code yX7_reorder cX7_reorder 2 (some .int) ∈ GW := gw4 (List.mem_of_getElem? (i := 208) rfl) rfl
theorem g4_209 : Cond.methodLink RX7 93 yX6_reorderNest ∈ GW := gw4 (List.mem_of_getElem? (i := 209) rfl) rfl
theorem g4_210 : Cond.instanceMethod yX6_reorderNest ∈ GW := gw4 (List.mem_of_getElem? (i := 210) rfl) rfl
theorem g4_211 : Cond.selects RX6 yX6_reorderNest yX6_reorderNest ∈ GW := gw4 (List.mem_of_getElem? (i := 211) rfl) rfl
theorem g4_212 : Cond.code yX6_reorderNest cX6_reorderNest 2 (some .int) ∈ GW := gw4 (List.mem_of_getElem? (i := 212) rfl) rfl
theorem g4_213 : Cond.methodLink RX6 152 yX4_sortByNumber ∈ GW := gw4 (List.mem_of_getElem? (i := 213) rfl) rfl
theorem g4_214 : Cond.instanceMethod yX4_sortByNumber ∈ GW := gw4 (List.mem_of_getElem? (i := 214) rfl) rfl
theorem g4_215 : Cond.selects RX4 yX4_sortByNumber yX4_sortByNumber ∈ GW := gw4 (List.mem_of_getElem? (i := 215) rfl) rfl
theorem g4_216 : Cond.code yX4_sortByNumber cX4_sortByNumber 3 none ∈ GW := gw4 (List.mem_of_getElem? (i := 216) rfl) rfl
theorem g4_217 : Cond.methodLink RX6 155 yX4_order ∈ GW := gw4 (List.mem_of_getElem? (i := 217) rfl) rfl
theorem g4_218 : Cond.instanceMethod yX4_order ∈ GW := gw4 (List.mem_of_getElem? (i := 218) rfl) rfl
theorem g4_219 : Cond.selects RX4 yX4_order yX4_order ∈ GW := gw4 (List.mem_of_getElem? (i := 219) rfl) rfl
theorem g4_220 : Cond.code yX4_order cX4_order 4 (some .int) ∈ GW := gw4 (List.mem_of_getElem? (i := 220) rfl) rfl
theorem g4_221 : Cond.methodLink RL 185 yL_recall ∈ GW := gw4 (List.mem_of_getElem? (i := 221) rfl) rfl
theorem g4_222 : Cond.static yL_recall ∈ GW := gw4 (List.mem_of_getElem? (i := 222) rfl) rfl
theorem g4_223 : Cond.codeWith yL_recall cL_recall 4 (some .int) [(0, 9, 12, 15)] ∈ GW := gw4 (List.mem_of_getElem? (i := 223) rfl) rfl
theorem g4_224 : Cond.methodLink RL 50 yX7_recall ∈ GW := gw4 (List.mem_of_getElem? (i := 224) rfl) rfl
theorem g4_225 : Cond.instanceMethod yX7_recall ∈ GW := gw4 (List.mem_of_getElem? (i := 225) rfl) rfl
theorem g4_226 : Cond.selects RX7 yX7_recall yX7_recall ∈ GW := gw4 (List.mem_of_getElem? (i := 226) rfl) rfl
theorem g4_227 : Cond.code yX7_recall cX7_recall 2 (some .int) ∈ GW := gw4 (List.mem_of_getElem? (i := 227) rfl) rfl
theorem g4_228 : Cond.methodLink RX7 96 yX6_recallPens ∈ GW := gw4 (List.mem_of_getElem? (i := 228) rfl) rfl
theorem g4_229 : Cond.instanceMethod yX6_recallPens ∈ GW := gw4 (List.mem_of_getElem? (i := 229) rfl) rfl
theorem g4_230 : Cond.selects RX6 yX6_recallPens yX6_recallPens ∈ GW := gw4 (List.mem_of_getElem? (i := 230) rfl) rfl
theorem g4_231 : Cond.code yX6_recallPens cX6_recallPens 7 (some .int) ∈ GW := gw4 (List.mem_of_getElem? (i := 231) rfl) rfl
theorem g4_232 : Cond.methodLink RX6 158 yX4_dropFeather ∈ GW := gw4 (List.mem_of_getElem? (i := 232) rfl) rfl
theorem g4_233 : Cond.instanceMethod yX4_dropFeather ∈ GW := gw4 (List.mem_of_getElem? (i := 233) rfl) rfl
theorem g4_234 : Cond.selects RX4 yX4_dropFeather yX4_dropFeather ∈ GW := gw4 (List.mem_of_getElem? (i := 234) rfl) rfl
theorem g4_235 : Cond.code yX4_dropFeather cX4_dropFeather 4 (some .int) ∈ GW := gw4 (List.mem_of_getElem? (i := 235) rfl) rfl
theorem g4_236 : Cond.methodLink RL 198 yL_feather ∈ GW := gw4 (List.mem_of_getElem? (i := 236) rfl) rfl
theorem g4_237 : Cond.static yL_feather ∈ GW := gw4 (List.mem_of_getElem? (i := 237) rfl) rfl
theorem g4_238 : Cond.codeWith yL_feather cL_feather 4 (some .int) [(0, 9, 12, 23)] ∈ GW := gw4 (List.mem_of_getElem? (i := 238) rfl) rfl
theorem g4_239 : Cond.methodLink RL 54 yX7_feather ∈ GW := gw4 (List.mem_of_getElem? (i := 239) rfl) rfl
theorem g5_0 : Cond.instanceMethod yX7_feather ∈ GW := gw5 (List.mem_of_getElem? (i := 0) rfl) rfl
theorem g5_1 : Cond.selects RX7 yX7_feather yX7_feather ∈ GW := gw5 (List.mem_of_getElem? (i := 1) rfl) rfl
theorem g5_2 : Cond.code yX7_feather cX7_feather 3 (some .char) ∈ GW := gw5 (List.mem_of_getElem? (i := 2) rfl) rfl
theorem g5_3 : Cond.methodLink RX7 107 yX7_nestHolding ∈ GW := gw5 (List.mem_of_getElem? (i := 3) rfl) rfl
theorem g5_5 : Cond.instanceMethod yX7_nestHolding ∈ GW := gw5 (List.mem_of_getElem? (i := 5) rfl) rfl
theorem g5_6 : Cond.code yX7_nestHolding cX7_nestHolding 3 (some (.object "PenNursery$Nest")) ∈ GW := gw5 (List.mem_of_getElem? (i := 6) rfl) rfl
theorem g5_7 : Cond.methodLink RX7 115 yX4_indexWith ∈ GW := gw5 (List.mem_of_getElem? (i := 7) rfl) rfl
theorem g5_8 : Cond.methodLink RL 201 yL_date ∈ GW := gw5 (List.mem_of_getElem? (i := 8) rfl) rfl
theorem g5_9 : Cond.static yL_date ∈ GW := gw5 (List.mem_of_getElem? (i := 9) rfl) rfl
theorem g5_10 : Cond.codeWith yL_date cL_date 4 (some .int) [(0, 9, 12, 23)] ∈ GW := gw5 (List.mem_of_getElem? (i := 10) rfl) rfl
theorem g5_11 : Cond.methodLink RL 58 yX7_date ∈ GW := gw5 (List.mem_of_getElem? (i := 11) rfl) rfl
theorem g5_12 : Cond.instanceMethod yX7_date ∈ GW := gw5 (List.mem_of_getElem? (i := 12) rfl) rfl
theorem g5_13 : Cond.selects RX7 yX7_date yX7_date ∈ GW := gw5 (List.mem_of_getElem? (i := 13) rfl) rfl
theorem g5_14 : Cond.code yX7_date cX7_date 3 (some .int) ∈ GW := gw5 (List.mem_of_getElem? (i := 14) rfl) rfl
theorem g5_15 : Cond.methodLink RL 204 yL_nestOf ∈ GW := gw5 (List.mem_of_getElem? (i := 15) rfl) rfl
theorem g5_16 : Cond.static yL_nestOf ∈ GW := gw5 (List.mem_of_getElem? (i := 16) rfl) rfl
theorem g5_17 : Cond.codeWith yL_nestOf cL_nestOf 4 (some .int) [(0, 9, 12, 23)] ∈ GW := gw5 (List.mem_of_getElem? (i := 17) rfl) rfl
theorem g5_18 : Cond.methodLink RL 61 yX7_nestOf ∈ GW := gw5 (List.mem_of_getElem? (i := 18) rfl) rfl
theorem g5_19 : Cond.instanceMethod yX7_nestOf ∈ GW := gw5 (List.mem_of_getElem? (i := 19) rfl) rfl
theorem g5_20 : Cond.selects RX7 yX7_nestOf yX7_nestOf ∈ GW := gw5 (List.mem_of_getElem? (i := 20) rfl) rfl
theorem g5_21 : Cond.code yX7_nestOf cX7_nestOf 3 (some .int) ∈ GW := gw5 (List.mem_of_getElem? (i := 21) rfl) rfl
theorem g5_22 : Cond.methodLink RL 207 yL_indexOf ∈ GW := gw5 (List.mem_of_getElem? (i := 22) rfl) rfl
theorem g5_23 : Cond.static yL_indexOf ∈ GW := gw5 (List.mem_of_getElem? (i := 23) rfl) rfl
theorem g5_24 : Cond.codeWith yL_indexOf cL_indexOf 4 (some .int) [(0, 9, 12, 23)] ∈ GW := gw5 (List.mem_of_getElem? (i := 24) rfl) rfl
theorem g5_25 : Cond.methodLink RL 64 yX7_indexOf ∈ GW := gw5 (List.mem_of_getElem? (i := 25) rfl) rfl
theorem g5_26 : Cond.instanceMethod yX7_indexOf ∈ GW := gw5 (List.mem_of_getElem? (i := 26) rfl) rfl
theorem g5_27 : Cond.selects RX7 yX7_indexOf yX7_indexOf ∈ GW := gw5 (List.mem_of_getElem? (i := 27) rfl) rfl
theorem g5_28 : Cond.code yX7_indexOf cX7_indexOf 2 (some .int) ∈ GW := gw5 (List.mem_of_getElem? (i := 28) rfl) rfl
theorem g5_29 : Cond.methodLink RL 210 yL_parentOf ∈ GW := gw5 (List.mem_of_getElem? (i := 29) rfl) rfl
theorem g5_30 : Cond.static yL_parentOf ∈ GW := gw5 (List.mem_of_getElem? (i := 30) rfl) rfl
theorem g5_31 : Cond.codeWith yL_parentOf cL_parentOf 4 (some .int) [(0, 9, 12, 23)] ∈ GW := gw5 (List.mem_of_getElem? (i := 31) rfl) rfl
theorem g5_32 : Cond.methodLink RL 67 yX7_parentOf ∈ GW := gw5 (List.mem_of_getElem? (i := 32) rfl) rfl
theorem g5_33 : Cond.instanceMethod yX7_parentOf ∈ GW := gw5 (List.mem_of_getElem? (i := 33) rfl) rfl
theorem g5_34 : Cond.selects RX7 yX7_parentOf yX7_parentOf ∈ GW := gw5 (List.mem_of_getElem? (i := 34) rfl) rfl
theorem g5_35 : Cond.code yX7_parentOf cX7_parentOf 4 (some .int) ∈ GW := gw5 (List.mem_of_getElem? (i := 35) rfl) rfl
theorem g5_37 : Cond.methodLink RL 213 yL_depth ∈ GW := gw5 (List.mem_of_getElem? (i := 37) rfl) rfl
theorem g5_38 : Cond.static yL_depth ∈ GW := gw5 (List.mem_of_getElem? (i := 38) rfl) rfl
theorem g5_39 : Cond.codeWith yL_depth cL_depth 4 (some .int) [(0, 9, 12, 23)] ∈ GW := gw5 (List.mem_of_getElem? (i := 39) rfl) rfl
theorem g5_40 : Cond.methodLink RL 70 yX7_depth ∈ GW := gw5 (List.mem_of_getElem? (i := 40) rfl) rfl
theorem g5_41 : Cond.instanceMethod yX7_depth ∈ GW := gw5 (List.mem_of_getElem? (i := 41) rfl) rfl
theorem g5_42 : Cond.selects RX7 yX7_depth yX7_depth ∈ GW := gw5 (List.mem_of_getElem? (i := 42) rfl) rfl
theorem g5_43 : Cond.code yX7_depth cX7_depth 2 (some .int) ∈ GW := gw5 (List.mem_of_getElem? (i := 43) rfl) rfl
theorem g5_44 : Cond.methodLink RX7 134 yX4_depthAt ∈ GW := gw5 (List.mem_of_getElem? (i := 44) rfl) rfl
theorem g5_45 : Cond.static yX4_depthAt ∈ GW := gw5 (List.mem_of_getElem? (i := 45) rfl) rfl
theorem g5_46 : Cond.code yX4_depthAt cX4_depthAt 3 (some .int) ∈ GW := gw5 (List.mem_of_getElem? (i := 46) rfl) rfl
theorem g5_47 : Cond.methodLink RL 216 yL_rankOf ∈ GW := gw5 (List.mem_of_getElem? (i := 47) rfl) rfl
theorem g5_48 : Cond.static yL_rankOf ∈ GW := gw5 (List.mem_of_getElem? (i := 48) rfl) rfl
theorem g5_49 : Cond.codeWith yL_rankOf cL_rankOf 4 (some .int) [(0, 9, 12, 23)] ∈ GW := gw5 (List.mem_of_getElem? (i := 49) rfl) rfl
theorem g5_50 : Cond.methodLink RL 73 yX7_rankOf ∈ GW := gw5 (List.mem_of_getElem? (i := 50) rfl) rfl
theorem g5_51 : Cond.instanceMethod yX7_rankOf ∈ GW := gw5 (List.mem_of_getElem? (i := 51) rfl) rfl
theorem g5_52 : Cond.selects RX7 yX7_rankOf yX7_rankOf ∈ GW := gw5 (List.mem_of_getElem? (i := 52) rfl) rfl
theorem g5_53 : Cond.code yX7_rankOf cX7_rankOf 3 (some .int) ∈ GW := gw5 (List.mem_of_getElem? (i := 53) rfl) rfl
theorem g5_54 : Cond.methodLink RX7 137 yX4_rankAt ∈ GW := gw5 (List.mem_of_getElem? (i := 54) rfl) rfl
theorem g5_55 : Cond.instanceMethod yX4_rankAt ∈ GW := gw5 (List.mem_of_getElem? (i := 55) rfl) rfl
theorem g5_56 : Cond.selects RX4 yX4_rankAt yX4_rankAt ∈ GW := gw5 (List.mem_of_getElem? (i := 56) rfl) rfl
theorem g5_57 : Cond.code yX4_rankAt cX4_rankAt 4 (some .int) ∈ GW := gw5 (List.mem_of_getElem? (i := 57) rfl) rfl
theorem g5_58 : Cond.methodLink RL 219 yL_size ∈ GW := gw5 (List.mem_of_getElem? (i := 58) rfl) rfl
theorem g5_59 : Cond.static yL_size ∈ GW := gw5 (List.mem_of_getElem? (i := 59) rfl) rfl
theorem g5_60 : Cond.codeWith yL_size cL_size 4 (some .int) [(0, 9, 12, 13)] ∈ GW := gw5 (List.mem_of_getElem? (i := 60) rfl) rfl
theorem g5_61 : Cond.methodLink RL 76 yX7_size ∈ GW := gw5 (List.mem_of_getElem? (i := 61) rfl) rfl
theorem g5_62 : Cond.instanceMethod yX7_size ∈ GW := gw5 (List.mem_of_getElem? (i := 62) rfl) rfl
theorem g5_63 : Cond.selects RX7 yX7_size yX7_size ∈ GW := gw5 (List.mem_of_getElem? (i := 63) rfl) rfl
theorem g5_64 : Cond.code yX7_size cX7_size 2 (some .int) ∈ GW := gw5 (List.mem_of_getElem? (i := 64) rfl) rfl
theorem g5_65 : Cond.methodLink RX7 140 yX7_nestNumbered ∈ GW := gw5 (List.mem_of_getElem? (i := 65) rfl) rfl
theorem g5_67 : Cond.instanceMethod yX7_nestNumbered ∈ GW := gw5 (List.mem_of_getElem? (i := 67) rfl) rfl
theorem g5_68 : Cond.code yX7_nestNumbered cX7_nestNumbered 2 (some (.object "PenNursery$Nest")) ∈ GW := gw5 (List.mem_of_getElem? (i := 68) rfl) rfl
theorem g5_69 : Cond.methodLink RX7 312 yX7_isNest ∈ GW := gw5 (List.mem_of_getElem? (i := 69) rfl) rfl
theorem g5_70 : Cond.methodLink RL 222 yL_penAt ∈ GW := gw5 (List.mem_of_getElem? (i := 70) rfl) rfl
theorem g5_71 : Cond.static yL_penAt ∈ GW := gw5 (List.mem_of_getElem? (i := 71) rfl) rfl
theorem g5_72 : Cond.codeWith yL_penAt cL_penAt 5 (some .int) [(0, 10, 13, 13), (0, 10, 17, 23)] ∈ GW := gw5 (List.mem_of_getElem? (i := 72) rfl) rfl
theorem g5_73 : Cond.methodLink RL 79 yX7_penAt ∈ GW := gw5 (List.mem_of_getElem? (i := 73) rfl) rfl
theorem g5_74 : Cond.instanceMethod yX7_penAt ∈ GW := gw5 (List.mem_of_getElem? (i := 74) rfl) rfl
theorem g5_75 : Cond.selects RX7 yX7_penAt yX7_penAt ∈ GW := gw5 (List.mem_of_getElem? (i := 75) rfl) rfl
theorem g5_76 : Cond.code yX7_penAt cX7_penAt 4 (some .int) ∈ GW := gw5 (List.mem_of_getElem? (i := 76) rfl) rfl
theorem g5_77 : Cond.methodLink RX7 146 yX4_hasIndex ∈ GW := gw5 (List.mem_of_getElem? (i := 77) rfl) rfl
theorem g5_79 : Cond.methodLink RL 225 yL_penByRank ∈ GW := gw5 (List.mem_of_getElem? (i := 79) rfl) rfl
theorem g5_80 : Cond.static yL_penByRank ∈ GW := gw5 (List.mem_of_getElem? (i := 80) rfl) rfl
theorem g5_81 : Cond.codeWith yL_penByRank cL_penByRank 5 (some .int) [(0, 10, 13, 13), (0, 10, 17, 23)] ∈ GW := gw5 (List.mem_of_getElem? (i := 81) rfl) rfl
theorem g5_82 : Cond.methodLink RL 82 yX7_penByRank ∈ GW := gw5 (List.mem_of_getElem? (i := 82) rfl) rfl
theorem g5_83 : Cond.instanceMethod yX7_penByRank ∈ GW := gw5 (List.mem_of_getElem? (i := 83) rfl) rfl
theorem g5_84 : Cond.selects RX7 yX7_penByRank yX7_penByRank ∈ GW := gw5 (List.mem_of_getElem? (i := 84) rfl) rfl
theorem g5_85 : Cond.code yX7_penByRank cX7_penByRank 4 (some .int) ∈ GW := gw5 (List.mem_of_getElem? (i := 85) rfl) rfl
theorem g5_87 : Cond.methodLink RL 228 yL_penBySorting ∈ GW := gw5 (List.mem_of_getElem? (i := 87) rfl) rfl
theorem g5_88 : Cond.static yL_penBySorting ∈ GW := gw5 (List.mem_of_getElem? (i := 88) rfl) rfl
theorem g5_89 : Cond.codeWith yL_penBySorting cL_penBySorting 5 (some .int) [(0, 10, 13, 13), (0, 10, 17, 23)] ∈ GW := gw5 (List.mem_of_getElem? (i := 89) rfl) rfl
theorem g5_90 : Cond.methodLink RL 85 yX7_penBySorting ∈ GW := gw5 (List.mem_of_getElem? (i := 90) rfl) rfl
theorem g5_91 : Cond.instanceMethod yX7_penBySorting ∈ GW := gw5 (List.mem_of_getElem? (i := 91) rfl) rfl
theorem g5_92 : Cond.selects RX7 yX7_penBySorting yX7_penBySorting ∈ GW := gw5 (List.mem_of_getElem? (i := 92) rfl) rfl
theorem g5_93 : Cond.code yX7_penBySorting cX7_penBySorting 4 (some .int) ∈ GW := gw5 (List.mem_of_getElem? (i := 93) rfl) rfl
theorem g5_94 : Cond.methodLink RL 231 yL_countBefore ∈ GW := gw5 (List.mem_of_getElem? (i := 94) rfl) rfl
theorem g5_95 : Cond.static yL_countBefore ∈ GW := gw5 (List.mem_of_getElem? (i := 95) rfl) rfl
theorem g5_96 : Cond.codeWith yL_countBefore cL_countBefore 5 (some .int) [(0, 10, 13, 13)] ∈ GW := gw5 (List.mem_of_getElem? (i := 96) rfl) rfl
theorem g5_97 : Cond.methodLink RL 88 yX7_countBefore ∈ GW := gw5 (List.mem_of_getElem? (i := 97) rfl) rfl
theorem g5_98 : Cond.instanceMethod yX7_countBefore ∈ GW := gw5 (List.mem_of_getElem? (i := 98) rfl) rfl
theorem g5_99 : Cond.selects RX7 yX7_countBefore yX7_countBefore ∈ GW := gw5 (List.mem_of_getElem? (i := 99) rfl) rfl
theorem g5_100 : Cond.code yX7_countBefore cX7_countBefore 3 (some .int) ∈ GW := gw5 (List.mem_of_getElem? (i := 100) rfl) rfl
theorem g5_101 : Cond.methodLink RL 234 yL_countBeforeByScan ∈ GW := gw5 (List.mem_of_getElem? (i := 101) rfl) rfl
theorem g5_102 : Cond.static yL_countBeforeByScan ∈ GW := gw5 (List.mem_of_getElem? (i := 102) rfl) rfl
theorem g5_103 : Cond.codeWith yL_countBeforeByScan cL_countBeforeByScan 5 (some .int) [(0, 10, 13, 13)] ∈ GW := gw5 (List.mem_of_getElem? (i := 103) rfl) rfl
theorem g5_104 : Cond.methodLink RL 91 yX7_countBeforeByScan ∈ GW := gw5 (List.mem_of_getElem? (i := 104) rfl) rfl
theorem g5_105 : Cond.instanceMethod yX7_countBeforeByScan ∈ GW := gw5 (List.mem_of_getElem? (i := 105) rfl) rfl
theorem g5_106 : Cond.selects RX7 yX7_countBeforeByScan yX7_countBeforeByScan ∈ GW := gw5 (List.mem_of_getElem? (i := 106) rfl) rfl
theorem g5_107 : Cond.code yX7_countBeforeByScan cX7_countBeforeByScan 3 (some .int) ∈ GW := gw5 (List.mem_of_getElem? (i := 107) rfl) rfl
theorem g5_108 : Cond.methodLink RL 237 yL_looksBefore ∈ GW := gw5 (List.mem_of_getElem? (i := 108) rfl) rfl
theorem g5_109 : Cond.static yL_looksBefore ∈ GW := gw5 (List.mem_of_getElem? (i := 109) rfl) rfl
theorem g5_110 : Cond.codeWith yL_looksBefore cL_looksBefore 5 (some .int) [(0, 10, 13, 13)] ∈ GW := gw5 (List.mem_of_getElem? (i := 110) rfl) rfl
theorem g5_111 : Cond.methodLink RL 94 yX7_looksBefore ∈ GW := gw5 (List.mem_of_getElem? (i := 111) rfl) rfl
theorem g5_112 : Cond.instanceMethod yX7_looksBefore ∈ GW := gw5 (List.mem_of_getElem? (i := 112) rfl) rfl
theorem g5_113 : Cond.selects RX7 yX7_looksBefore yX7_looksBefore ∈ GW := gw5 (List.mem_of_getElem? (i := 113) rfl) rfl
theorem g5_114 : Cond.code yX7_looksBefore cX7_looksBefore 3 (some .int) ∈ GW := gw5 (List.mem_of_getElem? (i := 114) rfl) rfl
theorem g5_115 : Cond.methodLink RX7 167 yX4_looksOfRecursion ∈ GW := gw5 (List.mem_of_getElem? (i := 115) rfl) rfl
theorem g5_116 : Cond.instanceMethod yX4_looksOfRecursion ∈ GW := gw5 (List.mem_of_getElem? (i := 116) rfl) rfl
theorem g5_117 : Cond.selects RX4 yX4_looksOfRecursion yX4_looksOfRecursion ∈ GW := gw5 (List.mem_of_getElem? (i := 117) rfl) rfl
theorem g5_118 : Cond.code yX4_looksOfRecursion cX4_looksOfRecursion 2 (some .int) ∈ GW := gw5 (List.mem_of_getElem? (i := 118) rfl) rfl
theorem g5_119 : Cond.methodLink RL 240 yL_levels ∈ GW := gw5 (List.mem_of_getElem? (i := 119) rfl) rfl
theorem g5_120 : Cond.static yL_levels ∈ GW := gw5 (List.mem_of_getElem? (i := 120) rfl) rfl
theorem g5_121 : Cond.codeWith yL_levels cL_levels 4 (some .int) [(0, 9, 12, 13)] ∈ GW := gw5 (List.mem_of_getElem? (i := 121) rfl) rfl
theorem g5_122 : Cond.methodLink RL 97 yX7_levels ∈ GW := gw5 (List.mem_of_getElem? (i := 122) rfl) rfl
theorem g5_123 : Cond.instanceMethod yX7_levels ∈ GW := gw5 (List.mem_of_getElem? (i := 123) rfl) rfl
theorem g5_124 : Cond.selects RX7 yX7_levels yX7_levels ∈ GW := gw5 (List.mem_of_getElem? (i := 124) rfl) rfl
theorem g5_125 : Cond.code yX7_levels cX7_levels 3 (some .int) ∈ GW := gw5 (List.mem_of_getElem? (i := 125) rfl) rfl
theorem g5_126 : Cond.methodLink RL 243 yL_pensWith ∈ GW := gw5 (List.mem_of_getElem? (i := 126) rfl) rfl
theorem g5_127 : Cond.static yL_pensWith ∈ GW := gw5 (List.mem_of_getElem? (i := 127) rfl) rfl
theorem g5_128 : Cond.codeWith yL_pensWith cL_pensWith 4 (some .int) [(0, 9, 12, 15)] ∈ GW := gw5 (List.mem_of_getElem? (i := 128) rfl) rfl
theorem g5_129 : Cond.methodLink RL 100 yX7_pensWith ∈ GW := gw5 (List.mem_of_getElem? (i := 129) rfl) rfl
theorem g5_130 : Cond.instanceMethod yX7_pensWith ∈ GW := gw5 (List.mem_of_getElem? (i := 130) rfl) rfl
theorem g5_131 : Cond.selects RX7 yX7_pensWith yX7_pensWith ∈ GW := gw5 (List.mem_of_getElem? (i := 131) rfl) rfl
theorem g5_132 : Cond.code yX7_pensWith cX7_pensWith 2 (some .int) ∈ GW := gw5 (List.mem_of_getElem? (i := 132) rfl) rfl
theorem g5_133 : Cond.methodLink RX7 170 yX7_checkFeather ∈ GW := gw5 (List.mem_of_getElem? (i := 133) rfl) rfl
theorem g5_134 : Cond.static yX7_checkFeather ∈ GW := gw5 (List.mem_of_getElem? (i := 134) rfl) rfl
theorem g5_135 : Cond.code yX7_checkFeather cX7_checkFeather 1 none ∈ GW := gw5 (List.mem_of_getElem? (i := 135) rfl) rfl
theorem g5_136 : Cond.methodLink RX7 315 yX7_isFeather ∈ GW := gw5 (List.mem_of_getElem? (i := 136) rfl) rfl
theorem g5_138 : Cond.methodLink RX7 174 yX6_countWith ∈ GW := gw5 (List.mem_of_getElem? (i := 138) rfl) rfl
theorem g5_139 : Cond.instanceMethod yX6_countWith ∈ GW := gw5 (List.mem_of_getElem? (i := 139) rfl) rfl
theorem g5_140 : Cond.selects RX6 yX6_countWith yX6_countWith ∈ GW := gw5 (List.mem_of_getElem? (i := 140) rfl) rfl
theorem g5_141 : Cond.code yX6_countWith cX6_countWith 7 (some .int) ∈ GW := gw5 (List.mem_of_getElem? (i := 141) rfl) rfl
theorem g5_142 : Cond.methodLink RX6 161 yX4_countWith ∈ GW := gw5 (List.mem_of_getElem? (i := 142) rfl) rfl
theorem g5_143 : Cond.instanceMethod yX4_countWith ∈ GW := gw5 (List.mem_of_getElem? (i := 143) rfl) rfl
theorem g5_144 : Cond.selects RX4 yX4_countWith yX4_countWith ∈ GW := gw5 (List.mem_of_getElem? (i := 144) rfl) rfl
theorem g5_145 : Cond.code yX4_countWith cX4_countWith 4 (some .int) ∈ GW := gw5 (List.mem_of_getElem? (i := 145) rfl) rfl
theorem g5_146 : Cond.methodLink RL 246 yL_ink ∈ GW := gw5 (List.mem_of_getElem? (i := 146) rfl) rfl
theorem g5_147 : Cond.static yL_ink ∈ GW := gw5 (List.mem_of_getElem? (i := 147) rfl) rfl
theorem g5_148 : Cond.codeWith yL_ink cL_ink 4 (some .int) [(0, 9, 12, 15)] ∈ GW := gw5 (List.mem_of_getElem? (i := 148) rfl) rfl
theorem g5_149 : Cond.methodLink RL 103 yX7_ink ∈ GW := gw5 (List.mem_of_getElem? (i := 149) rfl) rfl
theorem g5_150 : Cond.instanceMethod yX7_ink ∈ GW := gw5 (List.mem_of_getElem? (i := 150) rfl) rfl
theorem g5_151 : Cond.selects RX7 yX7_ink yX7_ink ∈ GW := gw5 (List.mem_of_getElem? (i := 151) rfl) rfl
theorem g5_152 : Cond.code yX7_ink cX7_ink 2 (some .int) ∈ GW := gw5 (List.mem_of_getElem? (i := 152) rfl) rfl
theorem g5_153 : Cond.methodLink RL 249 yL_commonFeather ∈ GW := gw5 (List.mem_of_getElem? (i := 153) rfl) rfl
theorem g5_154 : Cond.static yL_commonFeather ∈ GW := gw5 (List.mem_of_getElem? (i := 154) rfl) rfl
theorem g5_155 : Cond.codeWith yL_commonFeather cL_commonFeather 3 (some .int) [(0, 8, 11, 23)] ∈ GW := gw5 (List.mem_of_getElem? (i := 155) rfl) rfl
theorem g5_156 : Cond.methodLink RL 106 yX7_commonFeather ∈ GW := gw5 (List.mem_of_getElem? (i := 156) rfl) rfl
theorem g5_157 : Cond.instanceMethod yX7_commonFeather ∈ GW := gw5 (List.mem_of_getElem? (i := 157) rfl) rfl
theorem g5_158 : Cond.selects RX7 yX7_commonFeather yX7_commonFeather ∈ GW := gw5 (List.mem_of_getElem? (i := 158) rfl) rfl
theorem g5_159 : Cond.code yX7_commonFeather cX7_commonFeather 5 (some .char) ∈ GW := gw5 (List.mem_of_getElem? (i := 159) rfl) rfl
theorem g5_161 : Cond.methodLink RL 262 yL_meanDate ∈ GW := gw5 (List.mem_of_getElem? (i := 161) rfl) rfl
theorem g5_162 : Cond.static yL_meanDate ∈ GW := gw5 (List.mem_of_getElem? (i := 162) rfl) rfl
theorem g5_163 : Cond.codeWith yL_meanDate cL_meanDate 3 (some .int) [(0, 7, 10, 114)] ∈ GW := gw5 (List.mem_of_getElem? (i := 163) rfl) rfl
theorem g5_164 : Cond.classLink RL 114 "java/lang/ArithmeticException" ∈ GW := gw5 (List.mem_of_getElem? (i := 164) rfl) rfl
theorem g5_165 : Cond.instantiable "java/lang/ArithmeticException" 6 ∈ GW := gw5 (List.mem_of_getElem? (i := 165) rfl) rfl
theorem g5_166 : Cond.instanceMethod ⟨"java/lang/ArithmeticException", "<init>", "(Ljava/lang/String;)V"⟩ ∈ GW := gw5 (List.mem_of_getElem? (i := 166) rfl) rfl
theorem g5_167 : Cond.code ⟨"java/lang/ArithmeticException", "<init>", "(Ljava/lang/String;)V"⟩ prog_14_method_2_code 2 none ∈ GW := gw5 (List.mem_of_getElem? (i := 167) rfl) rfl
theorem g5_168 : Cond.methodLink "java/lang/ArithmeticException" 7 ⟨"java/lang/RuntimeException", "<init>", "(Ljava/lang/String;)V"⟩ ∈ GW := gw5 (List.mem_of_getElem? (i := 168) rfl) rfl
theorem g5_169 : Cond.lays "java/lang/ArithmeticException" "java/lang/Throwable" "backtrace" "Ljava/lang/Object;" ∈ GW := gw5 (List.mem_of_getElem? (i := 169) rfl) rfl
theorem g5_170 : Cond.lays "java/lang/ArithmeticException" "java/lang/Throwable" "detailMessage" "Ljava/lang/String;" ∈ GW := gw5 (List.mem_of_getElem? (i := 170) rfl) rfl
theorem g5_171 : Cond.lays "java/lang/ArithmeticException" "java/lang/Throwable" "cause" "Ljava/lang/Throwable;" ∈ GW := gw5 (List.mem_of_getElem? (i := 171) rfl) rfl
theorem g5_172 : Cond.lays "java/lang/ArithmeticException" "java/lang/Throwable" "stackTrace" "[Ljava/lang/StackTraceElement;" ∈ GW := gw5 (List.mem_of_getElem? (i := 172) rfl) rfl
theorem g5_173 : Cond.lays "java/lang/ArithmeticException" "java/lang/Throwable" "depth" "I" ∈ GW := gw5 (List.mem_of_getElem? (i := 173) rfl) rfl
theorem g5_174 : Cond.lays "java/lang/ArithmeticException" "java/lang/Throwable" "suppressedExceptions" "Ljava/util/List;" ∈ GW := gw5 (List.mem_of_getElem? (i := 174) rfl) rfl
theorem g5_175 : Cond.superclass "java/lang/ArithmeticException" "java/lang/RuntimeException" ∈ GW := gw5 (List.mem_of_getElem? (i := 175) rfl) rfl
theorem g5_177 : Cond.selects "java/lang/ArithmeticException" ⟨"java/lang/Throwable", "fillInStackTrace", "(I)Ljava/lang/Throwable;"⟩ ⟨"java/lang/Throwable", "fillInStackTrace", "(I)Ljava/lang/Throwable;"⟩ ∈ GW := gw5 (List.mem_of_getElem? (i := 177) rfl) rfl
theorem g5_178 : Cond.methodLink RL 110 yX7_meanDate ∈ GW := gw5 (List.mem_of_getElem? (i := 178) rfl) rfl
theorem g5_179 : Cond.instanceMethod yX7_meanDate ∈ GW := gw5 (List.mem_of_getElem? (i := 179) rfl) rfl
theorem g5_180 : Cond.selects RX7 yX7_meanDate yX7_meanDate ∈ GW := gw5 (List.mem_of_getElem? (i := 180) rfl) rfl
theorem g5_181 : Cond.code yX7_meanDate cX7_meanDate 2 (some .double) ∈ GW := gw5 (List.mem_of_getElem? (i := 181) rfl) rfl
theorem g5_182 : Cond.classLink RX7 189 "java/lang/ArithmeticException" ∈ GW := gw5 (List.mem_of_getElem? (i := 182) rfl) rfl
theorem g5_183 : Cond.methodLink RX7 191 ⟨"java/lang/ArithmeticException", "<init>", "(Ljava/lang/String;)V"⟩ ∈ GW := gw5 (List.mem_of_getElem? (i := 183) rfl) rfl
theorem g5_184 : Cond.methodLink RX7 192 yX6_dateSum ∈ GW := gw5 (List.mem_of_getElem? (i := 184) rfl) rfl
theorem g5_185 : Cond.instanceMethod yX6_dateSum ∈ GW := gw5 (List.mem_of_getElem? (i := 185) rfl) rfl
theorem g5_186 : Cond.selects RX6 yX6_dateSum yX6_dateSum ∈ GW := gw5 (List.mem_of_getElem? (i := 186) rfl) rfl
theorem g5_187 : Cond.code yX6_dateSum cX6_dateSum 6 (some .int) ∈ GW := gw5 (List.mem_of_getElem? (i := 187) rfl) rfl
theorem g5_188 : Cond.methodLink RX6 164 yX4_dateSum ∈ GW := gw5 (List.mem_of_getElem? (i := 188) rfl) rfl
theorem g5_189 : Cond.instanceMethod yX4_dateSum ∈ GW := gw5 (List.mem_of_getElem? (i := 189) rfl) rfl
theorem g5_190 : Cond.selects RX4 yX4_dateSum yX4_dateSum ∈ GW := gw5 (List.mem_of_getElem? (i := 190) rfl) rfl
theorem g5_191 : Cond.code yX4_dateSum cX4_dateSum 3 (some .int) ∈ GW := gw5 (List.mem_of_getElem? (i := 191) rfl) rfl
theorem g5_192 : Cond.methodLink RL 266 yL_pickedShare ∈ GW := gw5 (List.mem_of_getElem? (i := 192) rfl) rfl
theorem g5_193 : Cond.static yL_pickedShare ∈ GW := gw5 (List.mem_of_getElem? (i := 193) rfl) rfl
theorem g5_194 : Cond.codeWith yL_pickedShare cL_pickedShare 3 (some .int) [(0, 8, 11, 114)] ∈ GW := gw5 (List.mem_of_getElem? (i := 194) rfl) rfl
theorem g5_195 : Cond.methodLink RL 116 yX7_pickedShare ∈ GW := gw5 (List.mem_of_getElem? (i := 195) rfl) rfl
theorem g5_196 : Cond.instanceMethod yX7_pickedShare ∈ GW := gw5 (List.mem_of_getElem? (i := 196) rfl) rfl
theorem g5_197 : Cond.selects RX7 yX7_pickedShare yX7_pickedShare ∈ GW := gw5 (List.mem_of_getElem? (i := 197) rfl) rfl
theorem g5_198 : Cond.code yX7_pickedShare cX7_pickedShare 1 (some .float) ∈ GW := gw5 (List.mem_of_getElem? (i := 198) rfl) rfl
theorem g5_200 : Cond.methodLink RL 274 yL_writeNest ∈ GW := gw5 (List.mem_of_getElem? (i := 200) rfl) rfl
theorem g5_201 : Cond.static yL_writeNest ∈ GW := gw5 (List.mem_of_getElem? (i := 201) rfl) rfl
theorem g5_202 : Cond.codeWith yL_writeNest cL_writeNest 4 (some .int) [(0, 9, 12, 13)] ∈ GW := gw5 (List.mem_of_getElem? (i := 202) rfl) rfl
theorem g5_203 : Cond.methodLink RL 120 yX7_writeNest ∈ GW := gw5 (List.mem_of_getElem? (i := 203) rfl) rfl
theorem g5_204 : Cond.instanceMethod yX7_writeNest ∈ GW := gw5 (List.mem_of_getElem? (i := 204) rfl) rfl
theorem g5_205 : Cond.selects RX7 yX7_writeNest yX7_writeNest ∈ GW := gw5 (List.mem_of_getElem? (i := 205) rfl) rfl
theorem g5_206 : Cond.code yX7_writeNest cX7_writeNest 4 (some .int) ∈ GW := gw5 (List.mem_of_getElem? (i := 206) rfl) rfl
theorem g5_207 : Cond.methodLink RL 281 yL_charAt ∈ GW := gw5 (List.mem_of_getElem? (i := 207) rfl) rfl
theorem g5_208 : Cond.static yL_charAt ∈ GW := gw5 (List.mem_of_getElem? (i := 208) rfl) rfl
theorem g5_209 : Cond.codeWith yL_charAt cL_charAt 4 (some .int) [(0, 9, 12, 13)] ∈ GW := gw5 (List.mem_of_getElem? (i := 209) rfl) rfl
theorem g5_210 : Cond.methodLink RL 123 yX7_charAt ∈ GW := gw5 (List.mem_of_getElem? (i := 210) rfl) rfl
theorem g5_211 : Cond.instanceMethod yX7_charAt ∈ GW := gw5 (List.mem_of_getElem? (i := 211) rfl) rfl
theorem g5_212 : Cond.selects RX7 yX7_charAt yX7_charAt ∈ GW := gw5 (List.mem_of_getElem? (i := 212) rfl) rfl
theorem g5_213 : Cond.code yX7_charAt cX7_charAt 2 (some .char) ∈ GW := gw5 (List.mem_of_getElem? (i := 213) rfl) rfl
theorem g5_215 : Cond.methodLink RX7 234 yJ4_charAt_5068e ∈ GW := gw5 (List.mem_of_getElem? (i := 215) rfl) rfl
theorem g5_216 : Cond.instanceMethod yJ4_charAt_5068e ∈ GW := gw5 (List.mem_of_getElem? (i := 216) rfl) rfl
theorem g5_217 : Cond.selects RJ4 yJ4_charAt_5068e yJ4_charAt_5068e ∈ GW := gw5 (List.mem_of_getElem? (i := 217) rfl) rfl
theorem g5_218 : Cond.code yJ4_charAt_5068e cJ4_charAt_5068e 2 (some .char) ∈ GW := gw5 (List.mem_of_getElem? (i := 218) rfl) rfl
theorem g5_219 : Cond.methodLink RJ4 329 yJ5_charAt_5068e ∈ GW := gw5 (List.mem_of_getElem? (i := 219) rfl) rfl
theorem g5_220 : Cond.instanceMethod yJ5_charAt_5068e ∈ GW := gw5 (List.mem_of_getElem? (i := 220) rfl) rfl
theorem g5_221 : Cond.code yJ5_charAt_5068e cJ5_charAt_5068e 5 (some .char) ∈ GW := gw5 (List.mem_of_getElem? (i := 221) rfl) rfl
theorem g5_222 : Cond.methodLink RJ5 138 yJ9_min_7cf53 ∈ GW := gw5 (List.mem_of_getElem? (i := 222) rfl) rfl
theorem g5_223 : Cond.methodLink RJ5 144 yJ0_checkIndex_df160 ∈ GW := gw5 (List.mem_of_getElem? (i := 223) rfl) rfl
theorem g5_224 : Cond.methodLink RJ5 148 yJ2_getChar_3b067 ∈ GW := gw5 (List.mem_of_getElem? (i := 224) rfl) rfl
theorem g5_225 : Cond.methodLink RL 284 yL_type ∈ GW := gw5 (List.mem_of_getElem? (i := 225) rfl) rfl
theorem g5_226 : Cond.static yL_type ∈ GW := gw5 (List.mem_of_getElem? (i := 226) rfl) rfl
theorem g5_227 : Cond.codeWith yL_type cL_type 4 (some .int) [(0, 9, 12, 17)] ∈ GW := gw5 (List.mem_of_getElem? (i := 227) rfl) rfl
theorem g5_228 : Cond.methodLink RL 126 yX7_type ∈ GW := gw5 (List.mem_of_getElem? (i := 228) rfl) rfl
theorem g5_229 : Cond.instanceMethod yX7_type ∈ GW := gw5 (List.mem_of_getElem? (i := 229) rfl) rfl
theorem g5_230 : Cond.selects RX7 yX7_type yX7_type ∈ GW := gw5 (List.mem_of_getElem? (i := 230) rfl) rfl
theorem g5_231 : Cond.code yX7_type cX7_type 2 (some .int) ∈ GW := gw5 (List.mem_of_getElem? (i := 231) rfl) rfl
theorem g5_233 : Cond.methodLink RX7 245 yX5_append ∈ GW := gw5 (List.mem_of_getElem? (i := 233) rfl) rfl
theorem g5_234 : Cond.instanceMethod yX5_append ∈ GW := gw5 (List.mem_of_getElem? (i := 234) rfl) rfl
theorem g5_235 : Cond.selects RX5 yX5_append yX5_append ∈ GW := gw5 (List.mem_of_getElem? (i := 235) rfl) rfl
theorem g5_236 : Cond.code yX5_append cX5_append 2 none ∈ GW := gw5 (List.mem_of_getElem? (i := 236) rfl) rfl
theorem g5_237 : Cond.methodLink RL 287 yL_run ∈ GW := gw5 (List.mem_of_getElem? (i := 237) rfl) rfl
theorem g5_238 : Cond.static yL_run ∈ GW := gw5 (List.mem_of_getElem? (i := 238) rfl) rfl
theorem g5_239 : Cond.codeWith yL_run cL_run 3 (some .int) [(0, 8, 11, 15), (0, 8, 14, 25)] ∈ GW := gw5 (List.mem_of_getElem? (i := 239) rfl) rfl
theorem g6_0 : Cond.methodLink RL 129 yX7_run ∈ GW := gw6 (List.mem_of_getElem? (i := 0) rfl) rfl
theorem g6_1 : Cond.instanceMethod yX7_run ∈ GW := gw6 (List.mem_of_getElem? (i := 1) rfl) rfl
theorem g6_2 : Cond.selects RX7 yX7_run yX7_run ∈ GW := gw6 (List.mem_of_getElem? (i := 2) rfl) rfl
theorem g6_3 : Cond.code yX7_run cX7_run 3 (some .int) ∈ GW := gw6 (List.mem_of_getElem? (i := 3) rfl) rfl
theorem g6_4 : Cond.methodLink RX7 247 yX5_parse ∈ GW := gw6 (List.mem_of_getElem? (i := 4) rfl) rfl
theorem g6_5 : Cond.instanceMethod yX5_parse ∈ GW := gw6 (List.mem_of_getElem? (i := 5) rfl) rfl
theorem g6_6 : Cond.selects RX5 yX5_parse yX5_parse ∈ GW := gw6 (List.mem_of_getElem? (i := 6) rfl) rfl
theorem g6_7 : Cond.code yX5_parse cX5_parse 2 (some .int) ∈ GW := gw6 (List.mem_of_getElem? (i := 7) rfl) rfl
theorem g6_8 : Cond.methodLink RX5 32 yX5_readCommand ∈ GW := gw6 (List.mem_of_getElem? (i := 8) rfl) rfl
theorem g6_10 : Cond.instanceMethod yX5_readCommand ∈ GW := gw6 (List.mem_of_getElem? (i := 10) rfl) rfl
theorem g6_11 : Cond.code yX5_readCommand cX5_readCommand 7 (some .boolean) ∈ GW := gw6 (List.mem_of_getElem? (i := 11) rfl) rfl
theorem g6_14 : Cond.methodLink RX5 44 yX1_begin ∈ GW := gw6 (List.mem_of_getElem? (i := 14) rfl) rfl
theorem g6_15 : Cond.instanceMethod yX1_begin ∈ GW := gw6 (List.mem_of_getElem? (i := 15) rfl) rfl
theorem g6_16 : Cond.selects RX1 yX1_begin yX1_begin ∈ GW := gw6 (List.mem_of_getElem? (i := 16) rfl) rfl
theorem g6_17 : Cond.code yX1_begin cX1_begin 2 none ∈ GW := gw6 (List.mem_of_getElem? (i := 17) rfl) rfl
theorem g6_18 : Cond.methodLink RX5 54 yX5_readForm ∈ GW := gw6 (List.mem_of_getElem? (i := 18) rfl) rfl
theorem g6_20 : Cond.instanceMethod yX5_readForm ∈ GW := gw6 (List.mem_of_getElem? (i := 20) rfl) rfl
theorem g6_21 : Cond.code yX5_readForm cX5_readForm 4 (some .boolean) ∈ GW := gw6 (List.mem_of_getElem? (i := 21) rfl) rfl
theorem g6_22 : Cond.methodLink RX5 64 yJ0_length_8abf5 ∈ GW := gw6 (List.mem_of_getElem? (i := 22) rfl) rfl
theorem g6_23 : Cond.methodLink RX5 69 yJ0_charAt_5068e ∈ GW := gw6 (List.mem_of_getElem? (i := 23) rfl) rfl
theorem g6_24 : Cond.instanceMethod yJ0_charAt_5068e ∈ GW := gw6 (List.mem_of_getElem? (i := 24) rfl) rfl
theorem g6_25 : Cond.selects RJ0 yJ0_charAt_5068e yJ0_charAt_5068e ∈ GW := gw6 (List.mem_of_getElem? (i := 25) rfl) rfl
theorem g6_26 : Cond.code yJ0_charAt_5068e cJ0_charAt_5068e 2 (some .char) ∈ GW := gw6 (List.mem_of_getElem? (i := 26) rfl) rfl
theorem g6_27 : Cond.methodLink RJ0 492 yJ0_isLatin1_aae02 ∈ GW := gw6 (List.mem_of_getElem? (i := 27) rfl) rfl
theorem g6_28 : Cond.instanceMethod yJ0_isLatin1_aae02 ∈ GW := gw6 (List.mem_of_getElem? (i := 28) rfl) rfl
theorem g6_29 : Cond.selects RJ0 yJ0_isLatin1_aae02 yJ0_isLatin1_aae02 ∈ GW := gw6 (List.mem_of_getElem? (i := 29) rfl) rfl
theorem g6_30 : Cond.code yJ0_isLatin1_aae02 cJ0_isLatin1_aae02 1 (some .boolean) ∈ GW := gw6 (List.mem_of_getElem? (i := 30) rfl) rfl
theorem g6_31 : Cond.methodLink RJ0 495 yJ1_charAt_3b067 ∈ GW := gw6 (List.mem_of_getElem? (i := 31) rfl) rfl
theorem g6_32 : Cond.static yJ1_charAt_3b067 ∈ GW := gw6 (List.mem_of_getElem? (i := 32) rfl) rfl
theorem g6_33 : Cond.code yJ1_charAt_3b067 cJ1_charAt_3b067 2 (some .char) ∈ GW := gw6 (List.mem_of_getElem? (i := 33) rfl) rfl
theorem g6_34 : Cond.methodLink RJ1 9 yJ0_checkIndex_df160 ∈ GW := gw6 (List.mem_of_getElem? (i := 34) rfl) rfl
theorem g6_35 : Cond.methodLink RJ0 498 yJ2_charAt_3b067 ∈ GW := gw6 (List.mem_of_getElem? (i := 35) rfl) rfl
theorem g6_36 : Cond.static yJ2_charAt_3b067 ∈ GW := gw6 (List.mem_of_getElem? (i := 36) rfl) rfl
theorem g6_37 : Cond.code yJ2_charAt_3b067 cJ2_charAt_3b067 2 (some .char) ∈ GW := gw6 (List.mem_of_getElem? (i := 37) rfl) rfl
theorem g6_38 : Cond.methodLink RX5 73 yX5_readPart ∈ GW := gw6 (List.mem_of_getElem? (i := 38) rfl) rfl
theorem g6_40 : Cond.instanceMethod yX5_readPart ∈ GW := gw6 (List.mem_of_getElem? (i := 40) rfl) rfl
theorem g6_41 : Cond.code yX5_readPart cX5_readPart 3 (some .boolean) ∈ GW := gw6 (List.mem_of_getElem? (i := 41) rfl) rfl
theorem g6_42 : Cond.methodLink RX5 77 yX5_readNumber ∈ GW := gw6 (List.mem_of_getElem? (i := 42) rfl) rfl
theorem g6_44 : Cond.instanceMethod yX5_readNumber ∈ GW := gw6 (List.mem_of_getElem? (i := 44) rfl) rfl
theorem g6_45 : Cond.code yX5_readNumber cX5_readNumber 6 (some .boolean) ∈ GW := gw6 (List.mem_of_getElem? (i := 45) rfl) rfl
theorem g6_46 : Cond.methodLink RX5 84 yJ9_min_7cf53 ∈ GW := gw6 (List.mem_of_getElem? (i := 46) rfl) rfl
theorem g6_48 : Cond.static yX7_isDigit ∈ GW := gw6 (List.mem_of_getElem? (i := 48) rfl) rfl
theorem g6_49 : Cond.code yX7_isDigit cX7_isDigit 1 (some .boolean) ∈ GW := gw6 (List.mem_of_getElem? (i := 49) rfl) rfl
theorem g6_50 : Cond.methodLink RX5 90 yX1_give ∈ GW := gw6 (List.mem_of_getElem? (i := 50) rfl) rfl
theorem g6_51 : Cond.instanceMethod yX1_give ∈ GW := gw6 (List.mem_of_getElem? (i := 51) rfl) rfl
theorem g6_52 : Cond.selects RX1 yX1_give yX1_give ∈ GW := gw6 (List.mem_of_getElem? (i := 52) rfl) rfl
theorem g6_53 : Cond.code yX1_give cX1_give 2 none ∈ GW := gw6 (List.mem_of_getElem? (i := 53) rfl) rfl
theorem g6_54 : Cond.methodLink RX5 81 yX5_readFeather ∈ GW := gw6 (List.mem_of_getElem? (i := 54) rfl) rfl
theorem g6_56 : Cond.instanceMethod yX5_readFeather ∈ GW := gw6 (List.mem_of_getElem? (i := 56) rfl) rfl
theorem g6_57 : Cond.code yX5_readFeather cX5_readFeather 2 (some .boolean) ∈ GW := gw6 (List.mem_of_getElem? (i := 57) rfl) rfl
theorem g6_59 : Cond.methodLink RX5 36 yX5_readSign ∈ GW := gw6 (List.mem_of_getElem? (i := 59) rfl) rfl
theorem g6_61 : Cond.instanceMethod yX5_readSign ∈ GW := gw6 (List.mem_of_getElem? (i := 61) rfl) rfl
theorem g6_62 : Cond.code yX5_readSign cX5_readSign 2 (some .boolean) ∈ GW := gw6 (List.mem_of_getElem? (i := 62) rfl) rfl
theorem g6_63 : Cond.methodLink RX5 58 yJ9_max_7cf53 ∈ GW := gw6 (List.mem_of_getElem? (i := 63) rfl) rfl
theorem g6_65 : Cond.methodLink RX7 258 yX7_executeAll ∈ GW := gw6 (List.mem_of_getElem? (i := 65) rfl) rfl
theorem g6_67 : Cond.instanceMethod yX7_executeAll ∈ GW := gw6 (List.mem_of_getElem? (i := 67) rfl) rfl
theorem g6_68 : Cond.code yX7_executeAll cX7_executeAll 3 (some .int) ∈ GW := gw6 (List.mem_of_getElem? (i := 68) rfl) rfl
theorem g6_69 : Cond.methodLink RX7 305 yX6_execute ∈ GW := gw6 (List.mem_of_getElem? (i := 69) rfl) rfl
theorem g6_70 : Cond.instanceMethod yX6_execute ∈ GW := gw6 (List.mem_of_getElem? (i := 70) rfl) rfl
theorem g6_71 : Cond.selects RX6 yX6_execute yX6_execute ∈ GW := gw6 (List.mem_of_getElem? (i := 71) rfl) rfl
theorem g6_72 : Cond.code yX6_execute cX6_execute 2 (some .int) ∈ GW := gw6 (List.mem_of_getElem? (i := 72) rfl) rfl
theorem g6_73 : Cond.fieldLink RX6 39 "PenNursery$1" "$SwitchMap$PenNursery$Kind" "[I" ∈ GW := gw6 (List.mem_of_getElem? (i := 73) rfl) rfl
theorem g6_75 : Cond.methodLink RX6 50 ⟨RX3, "ordinal", "()I"⟩ ∈ GW := gw6 (List.mem_of_getElem? (i := 75) rfl) rfl
theorem g6_76 : Cond.sameMethod "PenNursery$Kind" "java/lang/Enum" "ordinal" "()I" ∈ GW := gw6 (List.mem_of_getElem? (i := 76) rfl) rfl
theorem g6_78 : Cond.selects RX3 ⟨RX3, "ordinal", "()I"⟩ yJx29ce0_ordinal_8abf5 ∈ GW := gw6 (List.mem_of_getElem? (i := 78) rfl) rfl
theorem g6_79 : Cond.instanceMethod yJx29ce0_ordinal_8abf5 ∈ GW := gw6 (List.mem_of_getElem? (i := 79) rfl) rfl
theorem g6_80 : Cond.code yJx29ce0_ordinal_8abf5 cJx29ce0_ordinal_8abf5 1 (some .int) ∈ GW := gw6 (List.mem_of_getElem? (i := 80) rfl) rfl
theorem g6_81 : Cond.methodLink RX6 66 yX6_plantPen ∈ GW := gw6 (List.mem_of_getElem? (i := 81) rfl) rfl
theorem g6_82 : Cond.methodLink RX6 70 yX6_pickPen ∈ GW := gw6 (List.mem_of_getElem? (i := 82) rfl) rfl
theorem g6_83 : Cond.methodLink RX6 74 yX6_sharpenPen ∈ GW := gw6 (List.mem_of_getElem? (i := 83) rfl) rfl
theorem g6_84 : Cond.methodLink RX6 78 yX6_bluntPen ∈ GW := gw6 (List.mem_of_getElem? (i := 84) rfl) rfl
theorem g6_85 : Cond.methodLink RX6 81 yX6_uprootPen ∈ GW := gw6 (List.mem_of_getElem? (i := 85) rfl) rfl
theorem g6_86 : Cond.methodLink RX6 84 yX6_movePen ∈ GW := gw6 (List.mem_of_getElem? (i := 86) rfl) rfl
theorem g6_87 : Cond.methodLink RX6 87 yX6_mergeNests ∈ GW := gw6 (List.mem_of_getElem? (i := 87) rfl) rfl
theorem g6_88 : Cond.methodLink RX6 90 yX6_reorderNest ∈ GW := gw6 (List.mem_of_getElem? (i := 88) rfl) rfl
theorem g6_89 : Cond.methodLink RX6 93 yX6_recallPens ∈ GW := gw6 (List.mem_of_getElem? (i := 89) rfl) rfl
theorem g6_90 : Cond.methodLink RX6 97 yX6_pourInk ∈ GW := gw6 (List.mem_of_getElem? (i := 90) rfl) rfl
theorem g6_91 : Cond.methodLink RX7 309 yX2_prepared ∈ GW := gw6 (List.mem_of_getElem? (i := 91) rfl) rfl
theorem g6_93 : Cond.methodLink RL 290 yL_errorPosition ∈ GW := gw6 (List.mem_of_getElem? (i := 93) rfl) rfl
theorem g6_94 : Cond.static yL_errorPosition ∈ GW := gw6 (List.mem_of_getElem? (i := 94) rfl) rfl
theorem g6_95 : Cond.codeWith yL_errorPosition cL_errorPosition 3 (some .int) [(0, 8, 11, 23)] ∈ GW := gw6 (List.mem_of_getElem? (i := 95) rfl) rfl
theorem g6_96 : Cond.methodLink RL 133 yX7_errorPosition ∈ GW := gw6 (List.mem_of_getElem? (i := 96) rfl) rfl
theorem g6_97 : Cond.instanceMethod yX7_errorPosition ∈ GW := gw6 (List.mem_of_getElem? (i := 97) rfl) rfl
theorem g6_98 : Cond.selects RX7 yX7_errorPosition yX7_errorPosition ∈ GW := gw6 (List.mem_of_getElem? (i := 98) rfl) rfl
theorem g6_99 : Cond.code yX7_errorPosition cX7_errorPosition 1 (some .int) ∈ GW := gw6 (List.mem_of_getElem? (i := 99) rfl) rfl
theorem g6_101 : Cond.methodLink RL 293 yL_failedCommand ∈ GW := gw6 (List.mem_of_getElem? (i := 101) rfl) rfl
theorem g6_102 : Cond.static yL_failedCommand ∈ GW := gw6 (List.mem_of_getElem? (i := 102) rfl) rfl
theorem g6_103 : Cond.codeWith yL_failedCommand cL_failedCommand 3 (some .int) [(0, 8, 11, 23)] ∈ GW := gw6 (List.mem_of_getElem? (i := 103) rfl) rfl
theorem g6_104 : Cond.methodLink RL 136 yX7_failedCommand ∈ GW := gw6 (List.mem_of_getElem? (i := 104) rfl) rfl
theorem g6_105 : Cond.instanceMethod yX7_failedCommand ∈ GW := gw6 (List.mem_of_getElem? (i := 105) rfl) rfl
theorem g6_106 : Cond.selects RX7 yX7_failedCommand yX7_failedCommand ∈ GW := gw6 (List.mem_of_getElem? (i := 106) rfl) rfl
theorem g6_107 : Cond.code yX7_failedCommand cX7_failedCommand 1 (some .int) ∈ GW := gw6 (List.mem_of_getElem? (i := 107) rfl) rfl
theorem g6_109 : Cond.methodLink RL 296 yL_undo ∈ GW := gw6 (List.mem_of_getElem? (i := 109) rfl) rfl
theorem g6_110 : Cond.static yL_undo ∈ GW := gw6 (List.mem_of_getElem? (i := 110) rfl) rfl
theorem g6_111 : Cond.codeWith yL_undo cL_undo 3 (some .int) [(0, 8, 11, 17)] ∈ GW := gw6 (List.mem_of_getElem? (i := 111) rfl) rfl
theorem g6_112 : Cond.methodLink RL 139 yX7_undo ∈ GW := gw6 (List.mem_of_getElem? (i := 112) rfl) rfl
theorem g6_113 : Cond.instanceMethod yX7_undo ∈ GW := gw6 (List.mem_of_getElem? (i := 113) rfl) rfl
theorem g6_114 : Cond.selects RX7 yX7_undo yX7_undo ∈ GW := gw6 (List.mem_of_getElem? (i := 114) rfl) rfl
theorem g6_115 : Cond.code yX7_undo cX7_undo 1 (some .int) ∈ GW := gw6 (List.mem_of_getElem? (i := 115) rfl) rfl
theorem g6_117 : Cond.methodLink RX7 275 yX2_takeLatest ∈ GW := gw6 (List.mem_of_getElem? (i := 117) rfl) rfl
theorem g6_118 : Cond.instanceMethod yX2_takeLatest ∈ GW := gw6 (List.mem_of_getElem? (i := 118) rfl) rfl
theorem g6_119 : Cond.selects RX2 yX2_takeLatest yX2_takeLatest ∈ GW := gw6 (List.mem_of_getElem? (i := 119) rfl) rfl
theorem g6_120 : Cond.code yX2_takeLatest cX2_takeLatest 1 (some (.object "PenNursery$State")) ∈ GW := gw6 (List.mem_of_getElem? (i := 120) rfl) rfl
theorem g6_121 : Cond.methodLink RL 303 yL_restore ∈ GW := gw6 (List.mem_of_getElem? (i := 121) rfl) rfl
theorem g6_122 : Cond.static yL_restore ∈ GW := gw6 (List.mem_of_getElem? (i := 122) rfl) rfl
theorem g6_123 : Cond.codeWith yL_restore cL_restore 3 (some .int) [(0, 8, 11, 17)] ∈ GW := gw6 (List.mem_of_getElem? (i := 123) rfl) rfl
theorem g6_124 : Cond.methodLink RL 142 yX7_restore ∈ GW := gw6 (List.mem_of_getElem? (i := 124) rfl) rfl
theorem g6_125 : Cond.instanceMethod yX7_restore ∈ GW := gw6 (List.mem_of_getElem? (i := 125) rfl) rfl
theorem g6_126 : Cond.selects RX7 yX7_restore yX7_restore ∈ GW := gw6 (List.mem_of_getElem? (i := 126) rfl) rfl
theorem g6_127 : Cond.code yX7_restore cX7_restore 1 (some .int) ∈ GW := gw6 (List.mem_of_getElem? (i := 127) rfl) rfl
theorem g6_129 : Cond.methodLink RX7 284 yX2_clear ∈ GW := gw6 (List.mem_of_getElem? (i := 129) rfl) rfl
theorem g6_130 : Cond.instanceMethod yX2_clear ∈ GW := gw6 (List.mem_of_getElem? (i := 130) rfl) rfl
theorem g6_131 : Cond.selects RX2 yX2_clear yX2_clear ∈ GW := gw6 (List.mem_of_getElem? (i := 131) rfl) rfl
theorem g6_132 : Cond.code yX2_clear cX2_clear 1 none ∈ GW := gw6 (List.mem_of_getElem? (i := 132) rfl) rfl
theorem g6_133 : Cond.classLink RL 146 RX8 ∈ GW := gw6 (List.mem_of_getElem? (i := 133) rfl) rfl
theorem g6_134 : Cond.instantiable RX8 18 ∈ GW := gw6 (List.mem_of_getElem? (i := 134) rfl) rfl
theorem g6_135 : Cond.methodLink RL 148 yX8_init ∈ GW := gw6 (List.mem_of_getElem? (i := 135) rfl) rfl
theorem g6_136 : Cond.instanceMethod yX8_init ∈ GW := gw6 (List.mem_of_getElem? (i := 136) rfl) rfl
theorem g6_137 : Cond.code yX8_init cX8_init 1 none ∈ GW := gw6 (List.mem_of_getElem? (i := 137) rfl) rfl
theorem g6_138 : Cond.methodLink RX8 3 ⟨"java/lang/Object", "<init>", "()V"⟩ ∈ GW := gw6 (List.mem_of_getElem? (i := 138) rfl) rfl
theorem g6_139 : Cond.fieldLink RX8 9 "PenNurseryModel" "s" "[I" ∈ GW := gw6 (List.mem_of_getElem? (i := 139) rfl) rfl
theorem g6_140 : Cond.fieldLink RX8 13 "PenNurseryModel" "before" "[I" ∈ GW := gw6 (List.mem_of_getElem? (i := 140) rfl) rfl
theorem g6_141 : Cond.fieldLink RX8 16 "PenNurseryModel" "saved" "[I" ∈ GW := gw6 (List.mem_of_getElem? (i := 141) rfl) rfl
theorem g6_142 : Cond.fieldLink RX8 19 "PenNurseryModel" "aside" "[I" ∈ GW := gw6 (List.mem_of_getElem? (i := 142) rfl) rfl
theorem g6_143 : Cond.fieldLink RX8 265 "PenNurseryModel" "isSaved" "Z" ∈ GW := gw6 (List.mem_of_getElem? (i := 143) rfl) rfl
theorem g6_144 : Cond.fieldLink RX8 22 "PenNurseryModel" "past" "[I" ∈ GW := gw6 (List.mem_of_getElem? (i := 144) rfl) rfl
theorem g6_145 : Cond.fieldLink RX8 51 "PenNurseryModel" "pastMany" "I" ∈ GW := gw6 (List.mem_of_getElem? (i := 145) rfl) rfl
theorem g6_146 : Cond.fieldLink RX8 42 "PenNurseryModel" "thrown" "I" ∈ GW := gw6 (List.mem_of_getElem? (i := 146) rfl) rfl
theorem g6_147 : Cond.fieldLink RX8 25 "PenNurseryModel" "line" "[C" ∈ GW := gw6 (List.mem_of_getElem? (i := 147) rfl) rfl
theorem g6_148 : Cond.fieldLink RX8 181 "PenNurseryModel" "lineMany" "I" ∈ GW := gw6 (List.mem_of_getElem? (i := 148) rfl) rfl
theorem g6_149 : Cond.fieldLink RX8 29 "PenNurseryModel" "input" "[C" ∈ GW := gw6 (List.mem_of_getElem? (i := 149) rfl) rfl
theorem g6_150 : Cond.fieldLink RX8 190 "PenNurseryModel" "length" "I" ∈ GW := gw6 (List.mem_of_getElem? (i := 150) rfl) rfl
theorem g6_151 : Cond.fieldLink RX8 193 "PenNurseryModel" "at" "I" ∈ GW := gw6 (List.mem_of_getElem? (i := 151) rfl) rfl
theorem g6_152 : Cond.fieldLink RX8 200 "PenNurseryModel" "isWrong" "Z" ∈ GW := gw6 (List.mem_of_getElem? (i := 152) rfl) rfl
theorem g6_153 : Cond.fieldLink RX8 32 "PenNurseryModel" "errorAt" "I" ∈ GW := gw6 (List.mem_of_getElem? (i := 153) rfl) rfl
theorem g6_154 : Cond.fieldLink RX8 36 "PenNurseryModel" "failedAt" "I" ∈ GW := gw6 (List.mem_of_getElem? (i := 154) rfl) rfl
theorem g6_155 : Cond.fieldLink RX8 39 "PenNurseryModel" "commands" "[I" ∈ GW := gw6 (List.mem_of_getElem? (i := 155) rfl) rfl
theorem g6_156 : Cond.fieldLink RX8 215 "PenNurseryModel" "commandMany" "I" ∈ GW := gw6 (List.mem_of_getElem? (i := 156) rfl) rfl
theorem g6_157 : Cond.laysFinal RX8 "PenNurseryModel" "s" "[I" ∈ GW := gw6 (List.mem_of_getElem? (i := 157) rfl) rfl
theorem g6_159 : Cond.laysFinal RX8 "PenNurseryModel" "before" "[I" ∈ GW := gw6 (List.mem_of_getElem? (i := 159) rfl) rfl
theorem g6_161 : Cond.laysFinal RX8 "PenNurseryModel" "saved" "[I" ∈ GW := gw6 (List.mem_of_getElem? (i := 161) rfl) rfl
theorem g6_163 : Cond.laysFinal RX8 "PenNurseryModel" "aside" "[I" ∈ GW := gw6 (List.mem_of_getElem? (i := 163) rfl) rfl
theorem g6_165 : Cond.lays RX8 "PenNurseryModel" "isSaved" "Z" ∈ GW := gw6 (List.mem_of_getElem? (i := 165) rfl) rfl
theorem g6_167 : Cond.laysFinal RX8 "PenNurseryModel" "past" "[I" ∈ GW := gw6 (List.mem_of_getElem? (i := 167) rfl) rfl
theorem g6_169 : Cond.lays RX8 "PenNurseryModel" "pastMany" "I" ∈ GW := gw6 (List.mem_of_getElem? (i := 169) rfl) rfl
theorem g6_171 : Cond.lays RX8 "PenNurseryModel" "thrown" "I" ∈ GW := gw6 (List.mem_of_getElem? (i := 171) rfl) rfl
theorem g6_173 : Cond.laysFinal RX8 "PenNurseryModel" "line" "[C" ∈ GW := gw6 (List.mem_of_getElem? (i := 173) rfl) rfl
theorem g6_175 : Cond.lays RX8 "PenNurseryModel" "lineMany" "I" ∈ GW := gw6 (List.mem_of_getElem? (i := 175) rfl) rfl
theorem g6_177 : Cond.laysFinal RX8 "PenNurseryModel" "input" "[C" ∈ GW := gw6 (List.mem_of_getElem? (i := 177) rfl) rfl
theorem g6_179 : Cond.lays RX8 "PenNurseryModel" "length" "I" ∈ GW := gw6 (List.mem_of_getElem? (i := 179) rfl) rfl
theorem g6_181 : Cond.lays RX8 "PenNurseryModel" "at" "I" ∈ GW := gw6 (List.mem_of_getElem? (i := 181) rfl) rfl
theorem g6_183 : Cond.lays RX8 "PenNurseryModel" "isWrong" "Z" ∈ GW := gw6 (List.mem_of_getElem? (i := 183) rfl) rfl
theorem g6_185 : Cond.lays RX8 "PenNurseryModel" "errorAt" "I" ∈ GW := gw6 (List.mem_of_getElem? (i := 185) rfl) rfl
theorem g6_187 : Cond.lays RX8 "PenNurseryModel" "failedAt" "I" ∈ GW := gw6 (List.mem_of_getElem? (i := 187) rfl) rfl
theorem g6_189 : Cond.laysFinal RX8 "PenNurseryModel" "commands" "[I" ∈ GW := gw6 (List.mem_of_getElem? (i := 189) rfl) rfl
theorem g6_191 : Cond.lays RX8 "PenNurseryModel" "commandMany" "I" ∈ GW := gw6 (List.mem_of_getElem? (i := 191) rfl) rfl
theorem g6_193 : Cond.superclass RX8 "java/lang/Object" ∈ GW := gw6 (List.mem_of_getElem? (i := 193) rfl) rfl
theorem g6_194 : Cond.methodLink RL 155 yX8_thrown ∈ GW := gw6 (List.mem_of_getElem? (i := 194) rfl) rfl
theorem g6_195 : Cond.instanceMethod yX8_thrown ∈ GW := gw6 (List.mem_of_getElem? (i := 195) rfl) rfl
theorem g6_196 : Cond.selects RX8 yX8_thrown yX8_thrown ∈ GW := gw6 (List.mem_of_getElem? (i := 196) rfl) rfl
theorem g6_197 : Cond.code yX8_thrown cX8_thrown 1 (some .int) ∈ GW := gw6 (List.mem_of_getElem? (i := 197) rfl) rfl
theorem g6_198 : Cond.methodLink RL 154 yX8_plant ∈ GW := gw6 (List.mem_of_getElem? (i := 198) rfl) rfl
theorem g6_199 : Cond.instanceMethod yX8_plant ∈ GW := gw6 (List.mem_of_getElem? (i := 199) rfl) rfl
theorem g6_200 : Cond.selects RX8 yX8_plant yX8_plant ∈ GW := gw6 (List.mem_of_getElem? (i := 200) rfl) rfl
theorem g6_201 : Cond.code yX8_plant cX8_plant 4 (some .int) ∈ GW := gw6 (List.mem_of_getElem? (i := 201) rfl) rfl
theorem g6_202 : Cond.methodLink RX8 101 yX8_keep ∈ GW := gw6 (List.mem_of_getElem? (i := 202) rfl) rfl
theorem g6_204 : Cond.instanceMethod yX8_keep ∈ GW := gw6 (List.mem_of_getElem? (i := 204) rfl) rfl
theorem g6_205 : Cond.code yX8_keep cX8_keep 1 none ∈ GW := gw6 (List.mem_of_getElem? (i := 205) rfl) rfl
theorem g6_206 : Cond.methodLink RX8 45 ⟨RJ10, "arraycopy", "(Ljava/lang/Object;ILjava/lang/Object;II)V"⟩ ∈ GW := gw6 (List.mem_of_getElem? (i := 206) rfl) rfl
theorem g6_207 : Cond.methodLink RX8 104 yX8_doPlant ∈ GW := gw6 (List.mem_of_getElem? (i := 207) rfl) rfl
theorem g6_209 : Cond.instanceMethod yX8_doPlant ∈ GW := gw6 (List.mem_of_getElem? (i := 209) rfl) rfl
theorem g6_210 : Cond.code yX8_doPlant cX8_doPlant 6 (some .int) ∈ GW := gw6 (List.mem_of_getElem? (i := 210) rfl) rfl
theorem g6_211 : Cond.methodLink RX8 83 yX8_isNest ∈ GW := gw6 (List.mem_of_getElem? (i := 211) rfl) rfl
theorem g6_212 : Cond.static yX8_isNest ∈ GW := gw6 (List.mem_of_getElem? (i := 212) rfl) rfl
theorem g6_213 : Cond.code yX8_isNest cX8_isNest 1 (some .boolean) ∈ GW := gw6 (List.mem_of_getElem? (i := 213) rfl) rfl
theorem g6_214 : Cond.methodLink RX8 54 yX8_in ∈ GW := gw6 (List.mem_of_getElem? (i := 214) rfl) rfl
theorem g6_215 : Cond.static yX8_in ∈ GW := gw6 (List.mem_of_getElem? (i := 215) rfl) rfl
theorem g6_216 : Cond.code yX8_in cX8_in 3 (some .boolean) ∈ GW := gw6 (List.mem_of_getElem? (i := 216) rfl) rfl
theorem g6_217 : Cond.methodLink RX8 87 yX8_fails ∈ GW := gw6 (List.mem_of_getElem? (i := 217) rfl) rfl
theorem g6_219 : Cond.instanceMethod yX8_fails ∈ GW := gw6 (List.mem_of_getElem? (i := 219) rfl) rfl
theorem g6_220 : Cond.code yX8_fails cX8_fails 2 (some .int) ∈ GW := gw6 (List.mem_of_getElem? (i := 220) rfl) rfl
theorem g6_221 : Cond.methodLink RX8 90 yX8_isFeather ∈ GW := gw6 (List.mem_of_getElem? (i := 221) rfl) rfl
theorem g6_222 : Cond.static yX8_isFeather ∈ GW := gw6 (List.mem_of_getElem? (i := 222) rfl) rfl
theorem g6_223 : Cond.code yX8_isFeather cX8_isFeather 1 (some .boolean) ∈ GW := gw6 (List.mem_of_getElem? (i := 223) rfl) rfl
theorem g6_224 : Cond.methodLink RX8 93 yX8_all ∈ GW := gw6 (List.mem_of_getElem? (i := 224) rfl) rfl
theorem g6_226 : Cond.instanceMethod yX8_all ∈ GW := gw6 (List.mem_of_getElem? (i := 226) rfl) rfl
theorem g6_227 : Cond.code yX8_all cX8_all 1 (some .int) ∈ GW := gw6 (List.mem_of_getElem? (i := 227) rfl) rfl
theorem g6_228 : Cond.methodLink RX8 58 yX8_many ∈ GW := gw6 (List.mem_of_getElem? (i := 228) rfl) rfl
theorem g6_230 : Cond.instanceMethod yX8_many ∈ GW := gw6 (List.mem_of_getElem? (i := 230) rfl) rfl
theorem g6_231 : Cond.code yX8_many cX8_many 2 (some .int) ∈ GW := gw6 (List.mem_of_getElem? (i := 231) rfl) rfl
theorem g6_232 : Cond.methodLink RX8 97 yX8_adds ∈ GW := gw6 (List.mem_of_getElem? (i := 232) rfl) rfl
theorem g6_234 : Cond.instanceMethod yX8_adds ∈ GW := gw6 (List.mem_of_getElem? (i := 234) rfl) rfl
theorem g6_235 : Cond.code yX8_adds cX8_adds 6 (some .int) ∈ GW := gw6 (List.mem_of_getElem? (i := 235) rfl) rfl
theorem g6_236 : Cond.methodLink RX8 62 yX8_place ∈ GW := gw6 (List.mem_of_getElem? (i := 236) rfl) rfl
theorem g6_237 : Cond.static yX8_place ∈ GW := gw6 (List.mem_of_getElem? (i := 237) rfl) rfl
theorem g6_238 : Cond.code yX8_place cX8_place 2 (some .int) ∈ GW := gw6 (List.mem_of_getElem? (i := 238) rfl) rfl
theorem g6_239 : Cond.methodLink RX8 77 yX8_up ∈ GW := gw6 (List.mem_of_getElem? (i := 239) rfl) rfl
theorem g7_1 : Cond.instanceMethod yX8_up ∈ GW := gw7 (List.mem_of_getElem? (i := 1) rfl) rfl
theorem g7_2 : Cond.code yX8_up cX8_up 4 (some .int) ∈ GW := gw7 (List.mem_of_getElem? (i := 2) rfl) rfl
theorem g7_3 : Cond.methodLink RX8 66 yX8_isSharper ∈ GW := gw7 (List.mem_of_getElem? (i := 3) rfl) rfl
theorem g7_5 : Cond.instanceMethod yX8_isSharper ∈ GW := gw7 (List.mem_of_getElem? (i := 5) rfl) rfl
theorem g7_6 : Cond.code yX8_isSharper cX8_isSharper 4 (some .boolean) ∈ GW := gw7 (List.mem_of_getElem? (i := 6) rfl) rfl
theorem g7_7 : Cond.methodLink RX8 70 yX8_trades ∈ GW := gw7 (List.mem_of_getElem? (i := 7) rfl) rfl
theorem g7_9 : Cond.instanceMethod yX8_trades ∈ GW := gw7 (List.mem_of_getElem? (i := 9) rfl) rfl
theorem g7_10 : Cond.code yX8_trades cX8_trades 5 none ∈ GW := gw7 (List.mem_of_getElem? (i := 10) rfl) rfl
theorem g7_11 : Cond.methodLink RX8 108 yX8_ends ∈ GW := gw7 (List.mem_of_getElem? (i := 11) rfl) rfl
theorem g7_13 : Cond.instanceMethod yX8_ends ∈ GW := gw7 (List.mem_of_getElem? (i := 13) rfl) rfl
theorem g7_14 : Cond.code yX8_ends cX8_ends 2 (some .int) ∈ GW := gw7 (List.mem_of_getElem? (i := 14) rfl) rfl
theorem g7_15 : Cond.methodLink RL 161 yX8_pick ∈ GW := gw7 (List.mem_of_getElem? (i := 15) rfl) rfl
theorem g7_16 : Cond.instanceMethod yX8_pick ∈ GW := gw7 (List.mem_of_getElem? (i := 16) rfl) rfl
theorem g7_17 : Cond.selects RX8 yX8_pick yX8_pick ∈ GW := gw7 (List.mem_of_getElem? (i := 17) rfl) rfl
theorem g7_18 : Cond.code yX8_pick cX8_pick 2 (some .int) ∈ GW := gw7 (List.mem_of_getElem? (i := 18) rfl) rfl
theorem g7_19 : Cond.methodLink RX8 114 yX8_doPick ∈ GW := gw7 (List.mem_of_getElem? (i := 19) rfl) rfl
theorem g7_21 : Cond.instanceMethod yX8_doPick ∈ GW := gw7 (List.mem_of_getElem? (i := 21) rfl) rfl
theorem g7_22 : Cond.code yX8_doPick cX8_doPick 4 (some .int) ∈ GW := gw7 (List.mem_of_getElem? (i := 22) rfl) rfl
theorem g7_23 : Cond.methodLink RX8 111 yX8_takes ∈ GW := gw7 (List.mem_of_getElem? (i := 23) rfl) rfl
theorem g7_25 : Cond.instanceMethod yX8_takes ∈ GW := gw7 (List.mem_of_getElem? (i := 25) rfl) rfl
theorem g7_26 : Cond.code yX8_takes cX8_takes 5 none ∈ GW := gw7 (List.mem_of_getElem? (i := 26) rfl) rfl
theorem g7_27 : Cond.methodLink RX8 80 yX8_down ∈ GW := gw7 (List.mem_of_getElem? (i := 27) rfl) rfl
theorem g7_29 : Cond.instanceMethod yX8_down ∈ GW := gw7 (List.mem_of_getElem? (i := 29) rfl) rfl
theorem g7_30 : Cond.code yX8_down cX8_down 5 (some .int) ∈ GW := gw7 (List.mem_of_getElem? (i := 30) rfl) rfl
theorem g7_31 : Cond.methodLink RX8 74 yX8_sharpest ∈ GW := gw7 (List.mem_of_getElem? (i := 31) rfl) rfl
theorem g7_33 : Cond.instanceMethod yX8_sharpest ∈ GW := gw7 (List.mem_of_getElem? (i := 33) rfl) rfl
theorem g7_34 : Cond.code yX8_sharpest cX8_sharpest 5 (some .int) ∈ GW := gw7 (List.mem_of_getElem? (i := 34) rfl) rfl
theorem g7_35 : Cond.methodLink RL 165 yX8_addInk ∈ GW := gw7 (List.mem_of_getElem? (i := 35) rfl) rfl
theorem g7_36 : Cond.instanceMethod yX8_addInk ∈ GW := gw7 (List.mem_of_getElem? (i := 36) rfl) rfl
theorem g7_37 : Cond.selects RX8 yX8_addInk yX8_addInk ∈ GW := gw7 (List.mem_of_getElem? (i := 37) rfl) rfl
theorem g7_38 : Cond.code yX8_addInk cX8_addInk 3 (some .int) ∈ GW := gw7 (List.mem_of_getElem? (i := 38) rfl) rfl
theorem g7_39 : Cond.methodLink RX8 122 yX8_doAddInk ∈ GW := gw7 (List.mem_of_getElem? (i := 39) rfl) rfl
theorem g7_41 : Cond.instanceMethod yX8_doAddInk ∈ GW := gw7 (List.mem_of_getElem? (i := 41) rfl) rfl
theorem g7_42 : Cond.code yX8_doAddInk cX8_doAddInk 4 (some .int) ∈ GW := gw7 (List.mem_of_getElem? (i := 42) rfl) rfl
theorem g7_43 : Cond.methodLink RX8 117 yJ9_min_7cf53 ∈ GW := gw7 (List.mem_of_getElem? (i := 43) rfl) rfl
theorem g7_44 : Cond.methodLink RL 169 yX8_sharpen ∈ GW := gw7 (List.mem_of_getElem? (i := 44) rfl) rfl
theorem g7_45 : Cond.instanceMethod yX8_sharpen ∈ GW := gw7 (List.mem_of_getElem? (i := 45) rfl) rfl
theorem g7_46 : Cond.selects RX8 yX8_sharpen yX8_sharpen ∈ GW := gw7 (List.mem_of_getElem? (i := 46) rfl) rfl
theorem g7_47 : Cond.code yX8_sharpen cX8_sharpen 3 (some .int) ∈ GW := gw7 (List.mem_of_getElem? (i := 47) rfl) rfl
theorem g7_48 : Cond.methodLink RX8 137 yX8_doDate ∈ GW := gw7 (List.mem_of_getElem? (i := 48) rfl) rfl
theorem g7_50 : Cond.instanceMethod yX8_doDate ∈ GW := gw7 (List.mem_of_getElem? (i := 50) rfl) rfl
theorem g7_51 : Cond.code yX8_doDate cX8_doDate 5 (some .int) ∈ GW := gw7 (List.mem_of_getElem? (i := 51) rfl) rfl
theorem g7_52 : Cond.methodLink RX8 125 yX8_find ∈ GW := gw7 (List.mem_of_getElem? (i := 52) rfl) rfl
theorem g7_54 : Cond.instanceMethod yX8_find ∈ GW := gw7 (List.mem_of_getElem? (i := 54) rfl) rfl
theorem g7_55 : Cond.code yX8_find cX8_find 5 (some .int) ∈ GW := gw7 (List.mem_of_getElem? (i := 55) rfl) rfl
theorem g7_56 : Cond.methodLink RX8 128 yJ9_max_7cf53 ∈ GW := gw7 (List.mem_of_getElem? (i := 56) rfl) rfl
theorem g7_57 : Cond.methodLink RX8 131 yX8_nestAt ∈ GW := gw7 (List.mem_of_getElem? (i := 57) rfl) rfl
theorem g7_58 : Cond.static yX8_nestAt ∈ GW := gw7 (List.mem_of_getElem? (i := 58) rfl) rfl
theorem g7_59 : Cond.code yX8_nestAt cX8_nestAt 1 (some .int) ∈ GW := gw7 (List.mem_of_getElem? (i := 59) rfl) rfl
theorem g7_60 : Cond.methodLink RX8 134 yX8_indexAt ∈ GW := gw7 (List.mem_of_getElem? (i := 60) rfl) rfl
theorem g7_61 : Cond.static yX8_indexAt ∈ GW := gw7 (List.mem_of_getElem? (i := 61) rfl) rfl
theorem g7_62 : Cond.code yX8_indexAt cX8_indexAt 1 (some .int) ∈ GW := gw7 (List.mem_of_getElem? (i := 62) rfl) rfl
theorem g7_63 : Cond.methodLink RL 172 yX8_blunt ∈ GW := gw7 (List.mem_of_getElem? (i := 63) rfl) rfl
theorem g7_64 : Cond.instanceMethod yX8_blunt ∈ GW := gw7 (List.mem_of_getElem? (i := 64) rfl) rfl
theorem g7_65 : Cond.selects RX8 yX8_blunt yX8_blunt ∈ GW := gw7 (List.mem_of_getElem? (i := 65) rfl) rfl
theorem g7_66 : Cond.code yX8_blunt cX8_blunt 3 (some .int) ∈ GW := gw7 (List.mem_of_getElem? (i := 66) rfl) rfl
theorem g7_67 : Cond.methodLink RL 175 yX8_uproot ∈ GW := gw7 (List.mem_of_getElem? (i := 67) rfl) rfl
theorem g7_68 : Cond.instanceMethod yX8_uproot ∈ GW := gw7 (List.mem_of_getElem? (i := 68) rfl) rfl
theorem g7_69 : Cond.selects RX8 yX8_uproot yX8_uproot ∈ GW := gw7 (List.mem_of_getElem? (i := 69) rfl) rfl
theorem g7_70 : Cond.code yX8_uproot cX8_uproot 2 (some .int) ∈ GW := gw7 (List.mem_of_getElem? (i := 70) rfl) rfl
theorem g7_71 : Cond.methodLink RX8 140 yX8_doUproot ∈ GW := gw7 (List.mem_of_getElem? (i := 71) rfl) rfl
theorem g7_73 : Cond.instanceMethod yX8_doUproot ∈ GW := gw7 (List.mem_of_getElem? (i := 73) rfl) rfl
theorem g7_74 : Cond.code yX8_doUproot cX8_doUproot 4 (some .int) ∈ GW := gw7 (List.mem_of_getElem? (i := 74) rfl) rfl
theorem g7_75 : Cond.methodLink RL 178 yX8_move ∈ GW := gw7 (List.mem_of_getElem? (i := 75) rfl) rfl
theorem g7_76 : Cond.instanceMethod yX8_move ∈ GW := gw7 (List.mem_of_getElem? (i := 76) rfl) rfl
theorem g7_77 : Cond.selects RX8 yX8_move yX8_move ∈ GW := gw7 (List.mem_of_getElem? (i := 77) rfl) rfl
theorem g7_78 : Cond.code yX8_move cX8_move 3 (some .int) ∈ GW := gw7 (List.mem_of_getElem? (i := 78) rfl) rfl
theorem g7_79 : Cond.methodLink RX8 143 yX8_doMove ∈ GW := gw7 (List.mem_of_getElem? (i := 79) rfl) rfl
theorem g7_81 : Cond.instanceMethod yX8_doMove ∈ GW := gw7 (List.mem_of_getElem? (i := 81) rfl) rfl
theorem g7_82 : Cond.code yX8_doMove cX8_doMove 6 (some .int) ∈ GW := gw7 (List.mem_of_getElem? (i := 82) rfl) rfl
theorem g7_83 : Cond.methodLink RL 181 yX8_merge ∈ GW := gw7 (List.mem_of_getElem? (i := 83) rfl) rfl
theorem g7_84 : Cond.instanceMethod yX8_merge ∈ GW := gw7 (List.mem_of_getElem? (i := 84) rfl) rfl
theorem g7_85 : Cond.selects RX8 yX8_merge yX8_merge ∈ GW := gw7 (List.mem_of_getElem? (i := 85) rfl) rfl
theorem g7_86 : Cond.code yX8_merge cX8_merge 3 (some .int) ∈ GW := gw7 (List.mem_of_getElem? (i := 86) rfl) rfl
theorem g7_87 : Cond.methodLink RX8 146 yX8_doMerge ∈ GW := gw7 (List.mem_of_getElem? (i := 87) rfl) rfl
theorem g7_89 : Cond.instanceMethod yX8_doMerge ∈ GW := gw7 (List.mem_of_getElem? (i := 89) rfl) rfl
theorem g7_90 : Cond.code yX8_doMerge cX8_doMerge 7 (some .int) ∈ GW := gw7 (List.mem_of_getElem? (i := 90) rfl) rfl
theorem g7_91 : Cond.methodLink RL 184 yX8_reorder ∈ GW := gw7 (List.mem_of_getElem? (i := 91) rfl) rfl
theorem g7_92 : Cond.instanceMethod yX8_reorder ∈ GW := gw7 (List.mem_of_getElem? (i := 92) rfl) rfl
theorem g7_93 : Cond.selects RX8 yX8_reorder yX8_reorder ∈ GW := gw7 (List.mem_of_getElem? (i := 93) rfl) rfl
theorem g7_94 : Cond.code yX8_reorder cX8_reorder 2 (some .int) ∈ GW := gw7 (List.mem_of_getElem? (i := 94) rfl) rfl
theorem g7_95 : Cond.methodLink RX8 153 yX8_doReorder ∈ GW := gw7 (List.mem_of_getElem? (i := 95) rfl) rfl
theorem g7_97 : Cond.instanceMethod yX8_doReorder ∈ GW := gw7 (List.mem_of_getElem? (i := 97) rfl) rfl
theorem g7_98 : Cond.code yX8_doReorder cX8_doReorder 6 (some .int) ∈ GW := gw7 (List.mem_of_getElem? (i := 98) rfl) rfl
theorem g7_99 : Cond.methodLink RX8 149 yX8_orders ∈ GW := gw7 (List.mem_of_getElem? (i := 99) rfl) rfl
theorem g7_101 : Cond.instanceMethod yX8_orders ∈ GW := gw7 (List.mem_of_getElem? (i := 101) rfl) rfl
theorem g7_102 : Cond.code yX8_orders cX8_orders 4 none ∈ GW := gw7 (List.mem_of_getElem? (i := 102) rfl) rfl
theorem g7_103 : Cond.methodLink RL 188 yX8_recall ∈ GW := gw7 (List.mem_of_getElem? (i := 103) rfl) rfl
theorem g7_104 : Cond.instanceMethod yX8_recall ∈ GW := gw7 (List.mem_of_getElem? (i := 104) rfl) rfl
theorem g7_105 : Cond.selects RX8 yX8_recall yX8_recall ∈ GW := gw7 (List.mem_of_getElem? (i := 105) rfl) rfl
theorem g7_106 : Cond.code yX8_recall cX8_recall 2 (some .int) ∈ GW := gw7 (List.mem_of_getElem? (i := 106) rfl) rfl
theorem g7_107 : Cond.methodLink RX8 156 yX8_doRecall ∈ GW := gw7 (List.mem_of_getElem? (i := 107) rfl) rfl
theorem g7_109 : Cond.instanceMethod yX8_doRecall ∈ GW := gw7 (List.mem_of_getElem? (i := 109) rfl) rfl
theorem g7_110 : Cond.code yX8_doRecall cX8_doRecall 6 (some .int) ∈ GW := gw7 (List.mem_of_getElem? (i := 110) rfl) rfl
theorem g7_111 : Cond.methodLink RL 192 yX8_pens ∈ GW := gw7 (List.mem_of_getElem? (i := 111) rfl) rfl
theorem g7_112 : Cond.instanceMethod yX8_pens ∈ GW := gw7 (List.mem_of_getElem? (i := 112) rfl) rfl
theorem g7_113 : Cond.selects RX8 yX8_pens yX8_pens ∈ GW := gw7 (List.mem_of_getElem? (i := 113) rfl) rfl
theorem g7_114 : Cond.code yX8_pens cX8_pens 1 (some .int) ∈ GW := gw7 (List.mem_of_getElem? (i := 114) rfl) rfl
theorem g7_115 : Cond.methodLink RL 197 yX8_exists ∈ GW := gw7 (List.mem_of_getElem? (i := 115) rfl) rfl
theorem g7_116 : Cond.instanceMethod yX8_exists ∈ GW := gw7 (List.mem_of_getElem? (i := 116) rfl) rfl
theorem g7_117 : Cond.selects RX8 yX8_exists yX8_exists ∈ GW := gw7 (List.mem_of_getElem? (i := 117) rfl) rfl
theorem g7_118 : Cond.code yX8_exists cX8_exists 2 (some .boolean) ∈ GW := gw7 (List.mem_of_getElem? (i := 118) rfl) rfl
theorem g7_119 : Cond.methodLink RL 200 yX8_feather ∈ GW := gw7 (List.mem_of_getElem? (i := 119) rfl) rfl
theorem g7_120 : Cond.instanceMethod yX8_feather ∈ GW := gw7 (List.mem_of_getElem? (i := 120) rfl) rfl
theorem g7_121 : Cond.selects RX8 yX8_feather yX8_feather ∈ GW := gw7 (List.mem_of_getElem? (i := 121) rfl) rfl
theorem g7_122 : Cond.code yX8_feather cX8_feather 3 (some .char) ∈ GW := gw7 (List.mem_of_getElem? (i := 122) rfl) rfl
theorem g7_123 : Cond.methodLink RX8 159 yX8_isThere ∈ GW := gw7 (List.mem_of_getElem? (i := 123) rfl) rfl
theorem g7_125 : Cond.instanceMethod yX8_isThere ∈ GW := gw7 (List.mem_of_getElem? (i := 125) rfl) rfl
theorem g7_126 : Cond.code yX8_isThere cX8_isThere 2 (some .boolean) ∈ GW := gw7 (List.mem_of_getElem? (i := 126) rfl) rfl
theorem g7_127 : Cond.methodLink RL 203 yX8_date ∈ GW := gw7 (List.mem_of_getElem? (i := 127) rfl) rfl
theorem g7_128 : Cond.instanceMethod yX8_date ∈ GW := gw7 (List.mem_of_getElem? (i := 128) rfl) rfl
theorem g7_129 : Cond.selects RX8 yX8_date yX8_date ∈ GW := gw7 (List.mem_of_getElem? (i := 129) rfl) rfl
theorem g7_130 : Cond.code yX8_date cX8_date 3 (some .int) ∈ GW := gw7 (List.mem_of_getElem? (i := 130) rfl) rfl
theorem g7_131 : Cond.methodLink RL 206 yX8_nestOf ∈ GW := gw7 (List.mem_of_getElem? (i := 131) rfl) rfl
theorem g7_132 : Cond.instanceMethod yX8_nestOf ∈ GW := gw7 (List.mem_of_getElem? (i := 132) rfl) rfl
theorem g7_133 : Cond.selects RX8 yX8_nestOf yX8_nestOf ∈ GW := gw7 (List.mem_of_getElem? (i := 133) rfl) rfl
theorem g7_134 : Cond.code yX8_nestOf cX8_nestOf 3 (some .int) ∈ GW := gw7 (List.mem_of_getElem? (i := 134) rfl) rfl
theorem g7_135 : Cond.methodLink RL 209 yX8_indexOf ∈ GW := gw7 (List.mem_of_getElem? (i := 135) rfl) rfl
theorem g7_136 : Cond.instanceMethod yX8_indexOf ∈ GW := gw7 (List.mem_of_getElem? (i := 136) rfl) rfl
theorem g7_137 : Cond.selects RX8 yX8_indexOf yX8_indexOf ∈ GW := gw7 (List.mem_of_getElem? (i := 137) rfl) rfl
theorem g7_138 : Cond.code yX8_indexOf cX8_indexOf 3 (some .int) ∈ GW := gw7 (List.mem_of_getElem? (i := 138) rfl) rfl
theorem g7_139 : Cond.methodLink RL 212 yX8_parentOf ∈ GW := gw7 (List.mem_of_getElem? (i := 139) rfl) rfl
theorem g7_140 : Cond.instanceMethod yX8_parentOf ∈ GW := gw7 (List.mem_of_getElem? (i := 140) rfl) rfl
theorem g7_141 : Cond.selects RX8 yX8_parentOf yX8_parentOf ∈ GW := gw7 (List.mem_of_getElem? (i := 141) rfl) rfl
theorem g7_142 : Cond.code yX8_parentOf cX8_parentOf 3 (some .int) ∈ GW := gw7 (List.mem_of_getElem? (i := 142) rfl) rfl
theorem g7_143 : Cond.methodLink RL 215 yX8_depth ∈ GW := gw7 (List.mem_of_getElem? (i := 143) rfl) rfl
theorem g7_144 : Cond.instanceMethod yX8_depth ∈ GW := gw7 (List.mem_of_getElem? (i := 144) rfl) rfl
theorem g7_145 : Cond.selects RX8 yX8_depth yX8_depth ∈ GW := gw7 (List.mem_of_getElem? (i := 145) rfl) rfl
theorem g7_146 : Cond.code yX8_depth cX8_depth 3 (some .int) ∈ GW := gw7 (List.mem_of_getElem? (i := 146) rfl) rfl
theorem g7_147 : Cond.methodLink RX8 163 yX8_above ∈ GW := gw7 (List.mem_of_getElem? (i := 147) rfl) rfl
theorem g7_148 : Cond.static yX8_above ∈ GW := gw7 (List.mem_of_getElem? (i := 148) rfl) rfl
theorem g7_149 : Cond.code yX8_above cX8_above 3 (some .int) ∈ GW := gw7 (List.mem_of_getElem? (i := 149) rfl) rfl
theorem g7_150 : Cond.methodLink RL 218 yX8_rankOf ∈ GW := gw7 (List.mem_of_getElem? (i := 150) rfl) rfl
theorem g7_151 : Cond.instanceMethod yX8_rankOf ∈ GW := gw7 (List.mem_of_getElem? (i := 151) rfl) rfl
theorem g7_152 : Cond.selects RX8 yX8_rankOf yX8_rankOf ∈ GW := gw7 (List.mem_of_getElem? (i := 152) rfl) rfl
theorem g7_153 : Cond.code yX8_rankOf cX8_rankOf 3 (some .int) ∈ GW := gw7 (List.mem_of_getElem? (i := 153) rfl) rfl
theorem g7_154 : Cond.methodLink RX8 166 yX8_sharper ∈ GW := gw7 (List.mem_of_getElem? (i := 154) rfl) rfl
theorem g7_156 : Cond.instanceMethod yX8_sharper ∈ GW := gw7 (List.mem_of_getElem? (i := 156) rfl) rfl
theorem g7_157 : Cond.code yX8_sharper cX8_sharper 5 (some .int) ∈ GW := gw7 (List.mem_of_getElem? (i := 157) rfl) rfl
theorem g7_158 : Cond.methodLink RL 221 yX8_size ∈ GW := gw7 (List.mem_of_getElem? (i := 158) rfl) rfl
theorem g7_159 : Cond.instanceMethod yX8_size ∈ GW := gw7 (List.mem_of_getElem? (i := 159) rfl) rfl
theorem g7_160 : Cond.selects RX8 yX8_size yX8_size ∈ GW := gw7 (List.mem_of_getElem? (i := 160) rfl) rfl
theorem g7_161 : Cond.code yX8_size cX8_size 2 (some .int) ∈ GW := gw7 (List.mem_of_getElem? (i := 161) rfl) rfl
theorem g7_162 : Cond.methodLink RL 224 yX8_penAt ∈ GW := gw7 (List.mem_of_getElem? (i := 162) rfl) rfl
theorem g7_163 : Cond.instanceMethod yX8_penAt ∈ GW := gw7 (List.mem_of_getElem? (i := 163) rfl) rfl
theorem g7_164 : Cond.selects RX8 yX8_penAt yX8_penAt ∈ GW := gw7 (List.mem_of_getElem? (i := 164) rfl) rfl
theorem g7_165 : Cond.code yX8_penAt cX8_penAt 3 (some .int) ∈ GW := gw7 (List.mem_of_getElem? (i := 165) rfl) rfl
theorem g7_166 : Cond.methodLink RL 227 yX8_penByRank ∈ GW := gw7 (List.mem_of_getElem? (i := 166) rfl) rfl
theorem g7_167 : Cond.instanceMethod yX8_penByRank ∈ GW := gw7 (List.mem_of_getElem? (i := 167) rfl) rfl
theorem g7_168 : Cond.selects RX8 yX8_penByRank yX8_penByRank ∈ GW := gw7 (List.mem_of_getElem? (i := 168) rfl) rfl
theorem g7_169 : Cond.code yX8_penByRank cX8_penByRank 5 (some .int) ∈ GW := gw7 (List.mem_of_getElem? (i := 169) rfl) rfl
theorem g7_170 : Cond.methodLink RX8 169 yX8_penAt ∈ GW := gw7 (List.mem_of_getElem? (i := 170) rfl) rfl
theorem g7_171 : Cond.methodLink RL 230 yX8_penBySorting ∈ GW := gw7 (List.mem_of_getElem? (i := 171) rfl) rfl
theorem g7_172 : Cond.instanceMethod yX8_penBySorting ∈ GW := gw7 (List.mem_of_getElem? (i := 172) rfl) rfl
theorem g7_173 : Cond.selects RX8 yX8_penBySorting yX8_penBySorting ∈ GW := gw7 (List.mem_of_getElem? (i := 173) rfl) rfl
theorem g7_174 : Cond.code yX8_penBySorting cX8_penBySorting 3 (some .int) ∈ GW := gw7 (List.mem_of_getElem? (i := 174) rfl) rfl
theorem g7_175 : Cond.methodLink RX8 172 yX8_penByRank ∈ GW := gw7 (List.mem_of_getElem? (i := 175) rfl) rfl
theorem g7_176 : Cond.methodLink RL 233 yX8_countBefore ∈ GW := gw7 (List.mem_of_getElem? (i := 176) rfl) rfl
theorem g7_177 : Cond.instanceMethod yX8_countBefore ∈ GW := gw7 (List.mem_of_getElem? (i := 177) rfl) rfl
theorem g7_178 : Cond.selects RX8 yX8_countBefore yX8_countBefore ∈ GW := gw7 (List.mem_of_getElem? (i := 178) rfl) rfl
theorem g7_179 : Cond.code yX8_countBefore cX8_countBefore 6 (some .int) ∈ GW := gw7 (List.mem_of_getElem? (i := 179) rfl) rfl
theorem g7_180 : Cond.methodLink RL 236 yX8_countBeforeByScan ∈ GW := gw7 (List.mem_of_getElem? (i := 180) rfl) rfl
theorem g7_181 : Cond.instanceMethod yX8_countBeforeByScan ∈ GW := gw7 (List.mem_of_getElem? (i := 181) rfl) rfl
theorem g7_182 : Cond.selects RX8 yX8_countBeforeByScan yX8_countBeforeByScan ∈ GW := gw7 (List.mem_of_getElem? (i := 182) rfl) rfl
theorem g7_183 : Cond.code yX8_countBeforeByScan cX8_countBeforeByScan 3 (some .int) ∈ GW := gw7 (List.mem_of_getElem? (i := 183) rfl) rfl
theorem g7_184 : Cond.methodLink RX8 175 yX8_countBefore ∈ GW := gw7 (List.mem_of_getElem? (i := 184) rfl) rfl
theorem g7_185 : Cond.methodLink RL 239 yX8_looksBefore ∈ GW := gw7 (List.mem_of_getElem? (i := 185) rfl) rfl
theorem g7_186 : Cond.instanceMethod yX8_looksBefore ∈ GW := gw7 (List.mem_of_getElem? (i := 186) rfl) rfl
theorem g7_187 : Cond.selects RX8 yX8_looksBefore yX8_looksBefore ∈ GW := gw7 (List.mem_of_getElem? (i := 187) rfl) rfl
theorem g7_188 : Cond.code yX8_looksBefore cX8_looksBefore 6 (some .int) ∈ GW := gw7 (List.mem_of_getElem? (i := 188) rfl) rfl
theorem g7_189 : Cond.methodLink RL 242 yX8_levels ∈ GW := gw7 (List.mem_of_getElem? (i := 189) rfl) rfl
theorem g7_190 : Cond.instanceMethod yX8_levels ∈ GW := gw7 (List.mem_of_getElem? (i := 190) rfl) rfl
theorem g7_191 : Cond.selects RX8 yX8_levels yX8_levels ∈ GW := gw7 (List.mem_of_getElem? (i := 191) rfl) rfl
theorem g7_192 : Cond.code yX8_levels cX8_levels 2 (some .int) ∈ GW := gw7 (List.mem_of_getElem? (i := 192) rfl) rfl
theorem g7_193 : Cond.methodLink RL 245 yX8_pensWith ∈ GW := gw7 (List.mem_of_getElem? (i := 193) rfl) rfl
theorem g7_194 : Cond.instanceMethod yX8_pensWith ∈ GW := gw7 (List.mem_of_getElem? (i := 194) rfl) rfl
theorem g7_195 : Cond.selects RX8 yX8_pensWith yX8_pensWith ∈ GW := gw7 (List.mem_of_getElem? (i := 195) rfl) rfl
theorem g7_196 : Cond.code yX8_pensWith cX8_pensWith 2 (some .int) ∈ GW := gw7 (List.mem_of_getElem? (i := 196) rfl) rfl
theorem g7_197 : Cond.methodLink RX8 178 yX8_with ∈ GW := gw7 (List.mem_of_getElem? (i := 197) rfl) rfl
theorem g7_199 : Cond.instanceMethod yX8_with ∈ GW := gw7 (List.mem_of_getElem? (i := 199) rfl) rfl
theorem g7_200 : Cond.code yX8_with cX8_with 5 (some .int) ∈ GW := gw7 (List.mem_of_getElem? (i := 200) rfl) rfl
theorem g7_201 : Cond.methodLink RL 248 yX8_ink ∈ GW := gw7 (List.mem_of_getElem? (i := 201) rfl) rfl
theorem g7_202 : Cond.instanceMethod yX8_ink ∈ GW := gw7 (List.mem_of_getElem? (i := 202) rfl) rfl
theorem g7_203 : Cond.selects RX8 yX8_ink yX8_ink ∈ GW := gw7 (List.mem_of_getElem? (i := 203) rfl) rfl
theorem g7_204 : Cond.code yX8_ink cX8_ink 2 (some .int) ∈ GW := gw7 (List.mem_of_getElem? (i := 204) rfl) rfl
theorem g7_205 : Cond.methodLink RL 252 yX8_commonFeather ∈ GW := gw7 (List.mem_of_getElem? (i := 205) rfl) rfl
theorem g7_206 : Cond.instanceMethod yX8_commonFeather ∈ GW := gw7 (List.mem_of_getElem? (i := 206) rfl) rfl
theorem g7_207 : Cond.selects RX8 yX8_commonFeather yX8_commonFeather ∈ GW := gw7 (List.mem_of_getElem? (i := 207) rfl) rfl
theorem g7_208 : Cond.code yX8_commonFeather cX8_commonFeather 3 (some .char) ∈ GW := gw7 (List.mem_of_getElem? (i := 208) rfl) rfl
theorem g7_209 : Cond.methodLink RL 256 yX8_picked ∈ GW := gw7 (List.mem_of_getElem? (i := 209) rfl) rfl
theorem g7_210 : Cond.instanceMethod yX8_picked ∈ GW := gw7 (List.mem_of_getElem? (i := 210) rfl) rfl
theorem g7_211 : Cond.selects RX8 yX8_picked yX8_picked ∈ GW := gw7 (List.mem_of_getElem? (i := 211) rfl) rfl
theorem g7_212 : Cond.code yX8_picked cX8_picked 1 (some .int) ∈ GW := gw7 (List.mem_of_getElem? (i := 212) rfl) rfl
theorem g7_213 : Cond.methodLink RL 261 yX8_exchanges ∈ GW := gw7 (List.mem_of_getElem? (i := 213) rfl) rfl
theorem g7_214 : Cond.instanceMethod yX8_exchanges ∈ GW := gw7 (List.mem_of_getElem? (i := 214) rfl) rfl
theorem g7_215 : Cond.selects RX8 yX8_exchanges yX8_exchanges ∈ GW := gw7 (List.mem_of_getElem? (i := 215) rfl) rfl
theorem g7_216 : Cond.code yX8_exchanges cX8_exchanges 1 (some .long) ∈ GW := gw7 (List.mem_of_getElem? (i := 216) rfl) rfl
theorem g7_217 : Cond.methodLink RL 265 yX8_meanDate ∈ GW := gw7 (List.mem_of_getElem? (i := 217) rfl) rfl
theorem g7_218 : Cond.instanceMethod yX8_meanDate ∈ GW := gw7 (List.mem_of_getElem? (i := 218) rfl) rfl
theorem g7_219 : Cond.selects RX8 yX8_meanDate yX8_meanDate ∈ GW := gw7 (List.mem_of_getElem? (i := 219) rfl) rfl
theorem g7_220 : Cond.code yX8_meanDate cX8_meanDate 4 (some .double) ∈ GW := gw7 (List.mem_of_getElem? (i := 220) rfl) rfl
theorem g7_221 : Cond.methodLink RL 268 yX8_pickedShare ∈ GW := gw7 (List.mem_of_getElem? (i := 221) rfl) rfl
theorem g7_222 : Cond.instanceMethod yX8_pickedShare ∈ GW := gw7 (List.mem_of_getElem? (i := 222) rfl) rfl
theorem g7_223 : Cond.selects RX8 yX8_pickedShare yX8_pickedShare ∈ GW := gw7 (List.mem_of_getElem? (i := 223) rfl) rfl
theorem g7_224 : Cond.code yX8_pickedShare cX8_pickedShare 1 (some .float) ∈ GW := gw7 (List.mem_of_getElem? (i := 224) rfl) rfl
theorem g7_225 : Cond.methodLink RL 273 yX8_isConsistent ∈ GW := gw7 (List.mem_of_getElem? (i := 225) rfl) rfl
theorem g7_226 : Cond.instanceMethod yX8_isConsistent ∈ GW := gw7 (List.mem_of_getElem? (i := 226) rfl) rfl
theorem g7_227 : Cond.selects RX8 yX8_isConsistent yX8_isConsistent ∈ GW := gw7 (List.mem_of_getElem? (i := 227) rfl) rfl
theorem g7_228 : Cond.code yX8_isConsistent cX8_isConsistent 1 (some .boolean) ∈ GW := gw7 (List.mem_of_getElem? (i := 228) rfl) rfl
theorem g7_229 : Cond.methodLink RL 276 yX8_writeNest ∈ GW := gw7 (List.mem_of_getElem? (i := 229) rfl) rfl
theorem g7_230 : Cond.instanceMethod yX8_writeNest ∈ GW := gw7 (List.mem_of_getElem? (i := 230) rfl) rfl
theorem g7_231 : Cond.selects RX8 yX8_writeNest yX8_writeNest ∈ GW := gw7 (List.mem_of_getElem? (i := 231) rfl) rfl
theorem g7_232 : Cond.code yX8_writeNest cX8_writeNest 4 (some .int) ∈ GW := gw7 (List.mem_of_getElem? (i := 232) rfl) rfl
theorem g7_233 : Cond.methodLink RX8 187 yX8_says ∈ GW := gw7 (List.mem_of_getElem? (i := 233) rfl) rfl
theorem g7_235 : Cond.instanceMethod yX8_says ∈ GW := gw7 (List.mem_of_getElem? (i := 235) rfl) rfl
theorem g7_236 : Cond.code yX8_says cX8_says 2 none ∈ GW := gw7 (List.mem_of_getElem? (i := 236) rfl) rfl
theorem g7_237 : Cond.methodLink RX8 184 yX8_saysNumber ∈ GW := gw7 (List.mem_of_getElem? (i := 237) rfl) rfl
theorem g7_239 : Cond.instanceMethod yX8_saysNumber ∈ GW := gw7 (List.mem_of_getElem? (i := 239) rfl) rfl
theorem g8_0 : Cond.code yX8_saysNumber cX8_saysNumber 2 none ∈ GW := gw8 (List.mem_of_getElem? (i := 0) rfl) rfl
theorem g8_1 : Cond.methodLink RL 280 yX8_writeInk ∈ GW := gw8 (List.mem_of_getElem? (i := 1) rfl) rfl
theorem g8_2 : Cond.instanceMethod yX8_writeInk ∈ GW := gw8 (List.mem_of_getElem? (i := 2) rfl) rfl
theorem g8_3 : Cond.selects RX8 yX8_writeInk yX8_writeInk ∈ GW := gw8 (List.mem_of_getElem? (i := 3) rfl) rfl
theorem g8_4 : Cond.code yX8_writeInk cX8_writeInk 2 (some .int) ∈ GW := gw8 (List.mem_of_getElem? (i := 4) rfl) rfl
theorem g8_5 : Cond.methodLink RL 283 yX8_charAt ∈ GW := gw8 (List.mem_of_getElem? (i := 5) rfl) rfl
theorem g8_6 : Cond.instanceMethod yX8_charAt ∈ GW := gw8 (List.mem_of_getElem? (i := 6) rfl) rfl
theorem g8_7 : Cond.selects RX8 yX8_charAt yX8_charAt ∈ GW := gw8 (List.mem_of_getElem? (i := 7) rfl) rfl
theorem g8_8 : Cond.code yX8_charAt cX8_charAt 2 (some .char) ∈ GW := gw8 (List.mem_of_getElem? (i := 8) rfl) rfl
theorem g8_9 : Cond.methodLink RL 286 yX8_type ∈ GW := gw8 (List.mem_of_getElem? (i := 9) rfl) rfl
theorem g8_10 : Cond.instanceMethod yX8_type ∈ GW := gw8 (List.mem_of_getElem? (i := 10) rfl) rfl
theorem g8_11 : Cond.selects RX8 yX8_type yX8_type ∈ GW := gw8 (List.mem_of_getElem? (i := 11) rfl) rfl
theorem g8_12 : Cond.code yX8_type cX8_type 2 (some .int) ∈ GW := gw8 (List.mem_of_getElem? (i := 12) rfl) rfl
theorem g8_13 : Cond.methodLink RL 289 yX8_run ∈ GW := gw8 (List.mem_of_getElem? (i := 13) rfl) rfl
theorem g8_14 : Cond.instanceMethod yX8_run ∈ GW := gw8 (List.mem_of_getElem? (i := 14) rfl) rfl
theorem g8_15 : Cond.selects RX8 yX8_run yX8_run ∈ GW := gw8 (List.mem_of_getElem? (i := 15) rfl) rfl
theorem g8_16 : Cond.code yX8_run cX8_run 2 (some .int) ∈ GW := gw8 (List.mem_of_getElem? (i := 16) rfl) rfl
theorem g8_17 : Cond.methodLink RX8 259 yX8_readCommand ∈ GW := gw8 (List.mem_of_getElem? (i := 17) rfl) rfl
theorem g8_19 : Cond.instanceMethod yX8_readCommand ∈ GW := gw8 (List.mem_of_getElem? (i := 19) rfl) rfl
theorem g8_20 : Cond.code yX8_readCommand cX8_readCommand 3 none ∈ GW := gw8 (List.mem_of_getElem? (i := 20) rfl) rfl
theorem g8_21 : Cond.methodLink RX8 204 yX8_behind ∈ GW := gw8 (List.mem_of_getElem? (i := 21) rfl) rfl
theorem g8_23 : Cond.instanceMethod yX8_behind ∈ GW := gw8 (List.mem_of_getElem? (i := 23) rfl) rfl
theorem g8_24 : Cond.code yX8_behind cX8_behind 2 (some .int) ∈ GW := gw8 (List.mem_of_getElem? (i := 24) rfl) rfl
theorem g8_25 : Cond.methodLink RX8 218 yX8_word ∈ GW := gw8 (List.mem_of_getElem? (i := 25) rfl) rfl
theorem g8_27 : Cond.instanceMethod yX8_word ∈ GW := gw8 (List.mem_of_getElem? (i := 27) rfl) rfl
theorem g8_28 : Cond.code yX8_word cX8_word 3 (some .int) ∈ GW := gw8 (List.mem_of_getElem? (i := 28) rfl) rfl
theorem g8_31 : Cond.methodLink RX8 225 yX8_skip ∈ GW := gw8 (List.mem_of_getElem? (i := 31) rfl) rfl
theorem g8_33 : Cond.instanceMethod yX8_skip ∈ GW := gw8 (List.mem_of_getElem? (i := 33) rfl) rfl
theorem g8_34 : Cond.code yX8_skip cX8_skip 3 none ∈ GW := gw8 (List.mem_of_getElem? (i := 34) rfl) rfl
theorem g8_35 : Cond.methodLink RX8 196 yJ0_length_8abf5 ∈ GW := gw8 (List.mem_of_getElem? (i := 35) rfl) rfl
theorem g8_36 : Cond.methodLink RX8 207 yJ0_charAt_5068e ∈ GW := gw8 (List.mem_of_getElem? (i := 36) rfl) rfl
theorem g8_37 : Cond.methodLink RX8 229 yX8_readNumber ∈ GW := gw8 (List.mem_of_getElem? (i := 37) rfl) rfl
theorem g8_39 : Cond.instanceMethod yX8_readNumber ∈ GW := gw8 (List.mem_of_getElem? (i := 39) rfl) rfl
theorem g8_40 : Cond.code yX8_readNumber cX8_readNumber 4 (some .int) ∈ GW := gw8 (List.mem_of_getElem? (i := 40) rfl) rfl
theorem g8_41 : Cond.methodLink RX8 211 yX8_isDigit ∈ GW := gw8 (List.mem_of_getElem? (i := 41) rfl) rfl
theorem g8_43 : Cond.instanceMethod yX8_isDigit ∈ GW := gw8 (List.mem_of_getElem? (i := 43) rfl) rfl
theorem g8_44 : Cond.code yX8_isDigit cX8_isDigit 1 (some .boolean) ∈ GW := gw8 (List.mem_of_getElem? (i := 44) rfl) rfl
theorem g8_45 : Cond.methodLink RX8 232 yX8_readFeather ∈ GW := gw8 (List.mem_of_getElem? (i := 45) rfl) rfl
theorem g8_47 : Cond.instanceMethod yX8_readFeather ∈ GW := gw8 (List.mem_of_getElem? (i := 47) rfl) rfl
theorem g8_48 : Cond.code yX8_readFeather cX8_readFeather 2 (some .int) ∈ GW := gw8 (List.mem_of_getElem? (i := 48) rfl) rfl
theorem g8_61 : Cond.methodLink RX8 262 yX8_does ∈ GW := gw8 (List.mem_of_getElem? (i := 61) rfl) rfl
theorem g8_63 : Cond.instanceMethod yX8_does ∈ GW := gw8 (List.mem_of_getElem? (i := 63) rfl) rfl
theorem g8_64 : Cond.code yX8_does cX8_does 6 none ∈ GW := gw8 (List.mem_of_getElem? (i := 64) rfl) rfl
theorem g8_65 : Cond.methodLink RL 292 yX8_errorPosition ∈ GW := gw8 (List.mem_of_getElem? (i := 65) rfl) rfl
theorem g8_66 : Cond.instanceMethod yX8_errorPosition ∈ GW := gw8 (List.mem_of_getElem? (i := 66) rfl) rfl
theorem g8_67 : Cond.selects RX8 yX8_errorPosition yX8_errorPosition ∈ GW := gw8 (List.mem_of_getElem? (i := 67) rfl) rfl
theorem g8_68 : Cond.code yX8_errorPosition cX8_errorPosition 1 (some .int) ∈ GW := gw8 (List.mem_of_getElem? (i := 68) rfl) rfl
theorem g8_69 : Cond.methodLink RL 295 yX8_failedCommand ∈ GW := gw8 (List.mem_of_getElem? (i := 69) rfl) rfl
theorem g8_70 : Cond.instanceMethod yX8_failedCommand ∈ GW := gw8 (List.mem_of_getElem? (i := 70) rfl) rfl
theorem g8_71 : Cond.selects RX8 yX8_failedCommand yX8_failedCommand ∈ GW := gw8 (List.mem_of_getElem? (i := 71) rfl) rfl
theorem g8_72 : Cond.code yX8_failedCommand cX8_failedCommand 1 (some .int) ∈ GW := gw8 (List.mem_of_getElem? (i := 72) rfl) rfl
theorem g8_73 : Cond.methodLink RL 298 yX8_undo ∈ GW := gw8 (List.mem_of_getElem? (i := 73) rfl) rfl
theorem g8_74 : Cond.instanceMethod yX8_undo ∈ GW := gw8 (List.mem_of_getElem? (i := 74) rfl) rfl
theorem g8_75 : Cond.selects RX8 yX8_undo yX8_undo ∈ GW := gw8 (List.mem_of_getElem? (i := 75) rfl) rfl
theorem g8_76 : Cond.code yX8_undo cX8_undo 1 (some .int) ∈ GW := gw8 (List.mem_of_getElem? (i := 76) rfl) rfl
theorem g8_77 : Cond.methodLink RL 302 yX8_save ∈ GW := gw8 (List.mem_of_getElem? (i := 77) rfl) rfl
theorem g8_78 : Cond.instanceMethod yX8_save ∈ GW := gw8 (List.mem_of_getElem? (i := 78) rfl) rfl
theorem g8_79 : Cond.selects RX8 yX8_save yX8_save ∈ GW := gw8 (List.mem_of_getElem? (i := 79) rfl) rfl
theorem g8_80 : Cond.code yX8_save cX8_save 1 (some .int) ∈ GW := gw8 (List.mem_of_getElem? (i := 80) rfl) rfl
theorem g8_81 : Cond.methodLink RL 305 yX8_restore ∈ GW := gw8 (List.mem_of_getElem? (i := 81) rfl) rfl
theorem g8_82 : Cond.instanceMethod yX8_restore ∈ GW := gw8 (List.mem_of_getElem? (i := 82) rfl) rfl
theorem g8_83 : Cond.selects RX8 yX8_restore yX8_restore ∈ GW := gw8 (List.mem_of_getElem? (i := 83) rfl) rfl
theorem g8_84 : Cond.code yX8_restore cX8_restore 1 (some .int) ∈ GW := gw8 (List.mem_of_getElem? (i := 84) rfl) rfl
theorem g8_85 : Cond.arrayClass .long ∈ GW := gw8 (List.mem_of_getElem? (i := 85) rfl) rfl
theorem g8_86 : Cond.arrayClass .double ∈ GW := gw8 (List.mem_of_getElem? (i := 86) rfl) rfl
theorem g8_87 : Cond.sameMethod "java/lang/AbstractStringBuilder" "java/lang/AbstractStringBuilder" "setLength" "(I)V" ∈ GW := gw8 (List.mem_of_getElem? (i := 87) rfl) rfl
theorem g8_88 : Cond.sameMethod "java/lang/AbstractStringBuilder" "java/lang/AbstractStringBuilder" "append" "(Ljava/lang/String;)Ljava/lang/AbstractStringBuilder;" ∈ GW := gw8 (List.mem_of_getElem? (i := 88) rfl) rfl
theorem g8_89 : Cond.sameMethod "java/lang/AbstractStringBuilder" "java/lang/AbstractStringBuilder" "appendNull" "()Ljava/lang/AbstractStringBuilder;" ∈ GW := gw8 (List.mem_of_getElem? (i := 89) rfl) rfl
theorem g8_90 : Cond.sameMethod "java/lang/AbstractStringBuilder" "java/lang/AbstractStringBuilder" "ensureCapacityInternal" "(I)V" ∈ GW := gw8 (List.mem_of_getElem? (i := 90) rfl) rfl
theorem g8_91 : Cond.sameMethod "java/lang/AbstractStringBuilder" "java/lang/AbstractStringBuilder" "newCapacity" "(I)I" ∈ GW := gw8 (List.mem_of_getElem? (i := 91) rfl) rfl
theorem g8_92 : Cond.sameMethod "java/lang/AbstractStringBuilder" "java/lang/AbstractStringBuilder" "putStringAt" "(ILjava/lang/String;)V" ∈ GW := gw8 (List.mem_of_getElem? (i := 92) rfl) rfl
theorem g8_93 : Cond.sameMethod "java/lang/AbstractStringBuilder" "java/lang/AbstractStringBuilder" "inflateIfNeededFor" "(Ljava/lang/String;)V" ∈ GW := gw8 (List.mem_of_getElem? (i := 93) rfl) rfl
theorem g8_94 : Cond.sameMethod "java/lang/AbstractStringBuilder" "java/lang/AbstractStringBuilder" "inflate" "()V" ∈ GW := gw8 (List.mem_of_getElem? (i := 94) rfl) rfl
theorem g8_95 : Cond.sameMethod "java/lang/AbstractStringBuilder" "java/lang/AbstractStringBuilder" "append" "(I)Ljava/lang/AbstractStringBuilder;" ∈ GW := gw8 (List.mem_of_getElem? (i := 95) rfl) rfl
theorem g8_96 : Cond.sameMethod "java/lang/Throwable" "java/lang/Throwable" "fillInStackTrace" "(I)Ljava/lang/Throwable;" ∈ GW := gw8 (List.mem_of_getElem? (i := 96) rfl) rfl
theorem g8_97 : Cond.selects RJ4 yJ4_length_8abf5 yJ4_length_8abf5 ∈ GW := gw8 (List.mem_of_getElem? (i := 97) rfl) rfl
theorem g8_98 : Cond.sameMethod "java/lang/AbstractStringBuilder" "java/lang/AbstractStringBuilder" "append" "(C)Ljava/lang/AbstractStringBuilder;" ∈ GW := gw8 (List.mem_of_getElem? (i := 98) rfl) rfl
theorem g8_99 : Cond.sameMethod "java/lang/AbstractStringBuilder" "java/lang/AbstractStringBuilder" "charAt" "(I)C" ∈ GW := gw8 (List.mem_of_getElem? (i := 99) rfl) rfl
theorem g8_121 : Cond.fieldLink RX5 48 "PenNursery$Kind" "form" "Ljava/lang/String;" ∈ GW := gw8 (List.mem_of_getElem? (i := 121) rfl) rfl
theorem g8_122 : Cond.fieldLink RJx29ce0 7 "java/lang/Enum" "ordinal" "I" ∈ GW := gw8 (List.mem_of_getElem? (i := 122) rfl) rfl
theorem gwp {w : Cond} (h : w ∈ k2_sels lw_privs) (g : goodWord w = true) : w ∈ GW := List.mem_filter.mpr ⟨List.mem_append_left _ h, g⟩
theorem gwp1 {q : MethodName × Nat} (h : q ∈ lw_privs_1) (g : goodWord (Cond.selects q.1.cls q.1 q.1) = true) : Cond.selects q.1.cls q.1 q.1 ∈ GW := gwp (List.mem_map.mpr ⟨q, (List.mem_append_left _ h), rfl⟩) g
theorem gp1_0 : Cond.selects RX4 yX4_isSharper yX4_isSharper ∈ GW := gwp1 (q := (⟨"PenNursery$Nest", "isSharper", "(II)Z"⟩, 5)) (List.mem_of_getElem? (i := 0) rfl) rfl
theorem gp1_1 : Cond.selects RX7 yX7_ranksAgree yX7_ranksAgree ∈ GW := gwp1 (q := (⟨"PenNursery", "ranksAgree", "(LPenNursery$Nest;)Z"⟩, 9)) (List.mem_of_getElem? (i := 1) rfl) rfl
theorem gp1_2 : Cond.selects RX7 yX7_findByTakingOut yX7_findByTakingOut ∈ GW := gwp1 (q := (⟨"PenNursery", "findByTakingOut", "(LPenNursery$Nest;I)I"⟩, 9)) (List.mem_of_getElem? (i := 2) rfl) rfl
theorem gp1_3 : Cond.selects RX4 yX4_put yX4_put ∈ GW := gwp1 (q := (⟨"PenNursery$Nest", "put", "(II)V"⟩, 5)) (List.mem_of_getElem? (i := 3) rfl) rfl
theorem gp1_4 : Cond.selects RX4 yX4_swap yX4_swap ∈ GW := gwp1 (q := (⟨"PenNursery$Nest", "swap", "(II)V"⟩, 5)) (List.mem_of_getElem? (i := 4) rfl) rfl
theorem gp1_5 : Cond.selects RX7 yX7_findBySorting yX7_findBySorting ∈ GW := gwp1 (q := (⟨"PenNursery", "findBySorting", "(LPenNursery$Nest;I)I"⟩, 9)) (List.mem_of_getElem? (i := 5) rfl) rfl
theorem gp1_6 : Cond.selects RX7 yX7_countsAgree yX7_countsAgree ∈ GW := gwp1 (q := (⟨"PenNursery", "countsAgree", "(LPenNursery$Nest;)Z"⟩, 9)) (List.mem_of_getElem? (i := 6) rfl) rfl
theorem gp1_8 : Cond.selects RX7 yX7_finishChange yX7_finishChange ∈ GW := gwp1 (q := (⟨"PenNursery", "finishChange", "(I)I"⟩, 9)) (List.mem_of_getElem? (i := 8) rfl) rfl
theorem gp1_9 : Cond.selects RX7 yX7_nestHolding yX7_nestHolding ∈ GW := gwp1 (q := (⟨"PenNursery", "nestHolding", "(I)LPenNursery$Nest;"⟩, 9)) (List.mem_of_getElem? (i := 9) rfl) rfl
theorem gp1_10 : Cond.selects RX7 yX7_nestNumbered yX7_nestNumbered ∈ GW := gwp1 (q := (⟨"PenNursery", "nestNumbered", "(I)LPenNursery$Nest;"⟩, 9)) (List.mem_of_getElem? (i := 10) rfl) rfl
theorem gp1_11 : Cond.selects RX5 yX5_readCommand yX5_readCommand ∈ GW := gwp1 (q := (⟨"PenNursery$Program", "readCommand", "(LPenNursery$Command;)Z"⟩, 5)) (List.mem_of_getElem? (i := 11) rfl) rfl
theorem gp1_12 : Cond.selects RX5 yX5_readForm yX5_readForm ∈ GW := gwp1 (q := (⟨"PenNursery$Program", "readForm", "(Ljava/lang/String;LPenNursery$Command;)Z"⟩, 5)) (List.mem_of_getElem? (i := 12) rfl) rfl
theorem gp1_13 : Cond.selects RX5 yX5_readPart yX5_readPart ∈ GW := gwp1 (q := (⟨"PenNursery$Program", "readPart", "(CLPenNursery$Command;)Z"⟩, 5)) (List.mem_of_getElem? (i := 13) rfl) rfl
theorem gp1_14 : Cond.selects RX5 yX5_readNumber yX5_readNumber ∈ GW := gwp1 (q := (⟨"PenNursery$Program", "readNumber", "(ILPenNursery$Command;)Z"⟩, 5)) (List.mem_of_getElem? (i := 14) rfl) rfl
theorem gp1_15 : Cond.selects RX5 yX5_readFeather yX5_readFeather ∈ GW := gwp1 (q := (⟨"PenNursery$Program", "readFeather", "(LPenNursery$Command;)Z"⟩, 5)) (List.mem_of_getElem? (i := 15) rfl) rfl
theorem gwp2 {q : MethodName × Nat} (h : q ∈ lw_privs_2) (g : goodWord (Cond.selects q.1.cls q.1 q.1) = true) : Cond.selects q.1.cls q.1 q.1 ∈ GW := gwp (List.mem_map.mpr ⟨q, (List.mem_append_right _ (List.mem_append_left _ h)), rfl⟩) g
theorem gp2_0 : Cond.selects RX5 yX5_readSign yX5_readSign ∈ GW := gwp2 (q := (⟨"PenNursery$Program", "readSign", "(C)Z"⟩, 5)) (List.mem_of_getElem? (i := 0) rfl) rfl
theorem gp2_1 : Cond.selects RX7 yX7_executeAll yX7_executeAll ∈ GW := gwp2 (q := (⟨"PenNursery", "executeAll", "(I)I"⟩, 9)) (List.mem_of_getElem? (i := 1) rfl) rfl
theorem gp2_2 : Cond.selects RX8 yX8_keep yX8_keep ∈ GW := gwp2 (q := (⟨"PenNurseryModel", "keep", "()V"⟩, 18)) (List.mem_of_getElem? (i := 2) rfl) rfl
theorem gp2_3 : Cond.selects RX8 yX8_doPlant yX8_doPlant ∈ GW := gwp2 (q := (⟨"PenNurseryModel", "doPlant", "(III)I"⟩, 18)) (List.mem_of_getElem? (i := 3) rfl) rfl
theorem gp2_4 : Cond.selects RX8 yX8_fails yX8_fails ∈ GW := gwp2 (q := (⟨"PenNurseryModel", "fails", "(I)I"⟩, 18)) (List.mem_of_getElem? (i := 4) rfl) rfl
theorem gp2_5 : Cond.selects RX8 yX8_all yX8_all ∈ GW := gwp2 (q := (⟨"PenNurseryModel", "all", "()I"⟩, 18)) (List.mem_of_getElem? (i := 5) rfl) rfl
theorem gp2_6 : Cond.selects RX8 yX8_many yX8_many ∈ GW := gwp2 (q := (⟨"PenNurseryModel", "many", "(I)I"⟩, 18)) (List.mem_of_getElem? (i := 6) rfl) rfl
theorem gp2_7 : Cond.selects RX8 yX8_adds yX8_adds ∈ GW := gwp2 (q := (⟨"PenNurseryModel", "adds", "(IIII)I"⟩, 18)) (List.mem_of_getElem? (i := 7) rfl) rfl
theorem gp2_8 : Cond.selects RX8 yX8_up yX8_up ∈ GW := gwp2 (q := (⟨"PenNurseryModel", "up", "(II)I"⟩, 18)) (List.mem_of_getElem? (i := 8) rfl) rfl
theorem gp2_9 : Cond.selects RX8 yX8_isSharper yX8_isSharper ∈ GW := gwp2 (q := (⟨"PenNurseryModel", "isSharper", "(II)Z"⟩, 18)) (List.mem_of_getElem? (i := 9) rfl) rfl
theorem gp2_10 : Cond.selects RX8 yX8_trades yX8_trades ∈ GW := gwp2 (q := (⟨"PenNurseryModel", "trades", "(II)V"⟩, 18)) (List.mem_of_getElem? (i := 10) rfl) rfl
theorem gp2_11 : Cond.selects RX8 yX8_ends yX8_ends ∈ GW := gwp2 (q := (⟨"PenNurseryModel", "ends", "(I)I"⟩, 18)) (List.mem_of_getElem? (i := 11) rfl) rfl
theorem gp2_12 : Cond.selects RX8 yX8_doPick yX8_doPick ∈ GW := gwp2 (q := (⟨"PenNurseryModel", "doPick", "(I)I"⟩, 18)) (List.mem_of_getElem? (i := 12) rfl) rfl
theorem gp2_13 : Cond.selects RX8 yX8_takes yX8_takes ∈ GW := gwp2 (q := (⟨"PenNurseryModel", "takes", "(II)V"⟩, 18)) (List.mem_of_getElem? (i := 13) rfl) rfl
theorem gp2_14 : Cond.selects RX8 yX8_down yX8_down ∈ GW := gwp2 (q := (⟨"PenNurseryModel", "down", "(II)I"⟩, 18)) (List.mem_of_getElem? (i := 14) rfl) rfl
theorem gp2_15 : Cond.selects RX8 yX8_sharpest yX8_sharpest ∈ GW := gwp2 (q := (⟨"PenNurseryModel", "sharpest", "(II)I"⟩, 18)) (List.mem_of_getElem? (i := 15) rfl) rfl
theorem gwp3 {q : MethodName × Nat} (h : q ∈ lw_privs_3) (g : goodWord (Cond.selects q.1.cls q.1 q.1) = true) : Cond.selects q.1.cls q.1 q.1 ∈ GW := gwp (List.mem_map.mpr ⟨q, (List.mem_append_right _ (List.mem_append_right _ (List.mem_append_left _ h))), rfl⟩) g
theorem gp3_0 : Cond.selects RX8 yX8_doAddInk yX8_doAddInk ∈ GW := gwp3 (q := (⟨"PenNurseryModel", "doAddInk", "(II)I"⟩, 18)) (List.mem_of_getElem? (i := 0) rfl) rfl
theorem gp3_1 : Cond.selects RX8 yX8_doDate yX8_doDate ∈ GW := gwp3 (q := (⟨"PenNurseryModel", "doDate", "(III)I"⟩, 18)) (List.mem_of_getElem? (i := 1) rfl) rfl
theorem gp3_2 : Cond.selects RX8 yX8_find yX8_find ∈ GW := gwp3 (q := (⟨"PenNurseryModel", "find", "(I)I"⟩, 18)) (List.mem_of_getElem? (i := 2) rfl) rfl
theorem gp3_3 : Cond.selects RX8 yX8_doUproot yX8_doUproot ∈ GW := gwp3 (q := (⟨"PenNurseryModel", "doUproot", "(I)I"⟩, 18)) (List.mem_of_getElem? (i := 3) rfl) rfl
theorem gp3_4 : Cond.selects RX8 yX8_doMove yX8_doMove ∈ GW := gwp3 (q := (⟨"PenNurseryModel", "doMove", "(II)I"⟩, 18)) (List.mem_of_getElem? (i := 4) rfl) rfl
theorem gp3_5 : Cond.selects RX8 yX8_doMerge yX8_doMerge ∈ GW := gwp3 (q := (⟨"PenNurseryModel", "doMerge", "(II)I"⟩, 18)) (List.mem_of_getElem? (i := 5) rfl) rfl
theorem gp3_6 : Cond.selects RX8 yX8_doReorder yX8_doReorder ∈ GW := gwp3 (q := (⟨"PenNurseryModel", "doReorder", "(I)I"⟩, 18)) (List.mem_of_getElem? (i := 6) rfl) rfl
theorem gp3_7 : Cond.selects RX8 yX8_orders yX8_orders ∈ GW := gwp3 (q := (⟨"PenNurseryModel", "orders", "(I)V"⟩, 18)) (List.mem_of_getElem? (i := 7) rfl) rfl
theorem gp3_8 : Cond.selects RX8 yX8_doRecall yX8_doRecall ∈ GW := gwp3 (q := (⟨"PenNurseryModel", "doRecall", "(I)I"⟩, 18)) (List.mem_of_getElem? (i := 8) rfl) rfl
theorem gp3_9 : Cond.selects RX8 yX8_isThere yX8_isThere ∈ GW := gwp3 (q := (⟨"PenNurseryModel", "isThere", "(Z)Z"⟩, 18)) (List.mem_of_getElem? (i := 9) rfl) rfl
theorem gp3_10 : Cond.selects RX8 yX8_sharper yX8_sharper ∈ GW := gwp3 (q := (⟨"PenNurseryModel", "sharper", "(II)I"⟩, 18)) (List.mem_of_getElem? (i := 10) rfl) rfl
theorem gp3_11 : Cond.selects RX8 yX8_with yX8_with ∈ GW := gwp3 (q := (⟨"PenNurseryModel", "with", "(I)I"⟩, 18)) (List.mem_of_getElem? (i := 11) rfl) rfl
theorem gp3_12 : Cond.selects RX8 yX8_says yX8_says ∈ GW := gwp3 (q := (⟨"PenNurseryModel", "says", "(I)V"⟩, 18)) (List.mem_of_getElem? (i := 12) rfl) rfl
theorem gp3_13 : Cond.selects RX8 yX8_saysNumber yX8_saysNumber ∈ GW := gwp3 (q := (⟨"PenNurseryModel", "saysNumber", "(I)V"⟩, 18)) (List.mem_of_getElem? (i := 13) rfl) rfl
theorem gp3_14 : Cond.selects RX8 yX8_readCommand yX8_readCommand ∈ GW := gwp3 (q := (⟨"PenNurseryModel", "readCommand", "()V"⟩, 18)) (List.mem_of_getElem? (i := 14) rfl) rfl
theorem gp3_15 : Cond.selects RX8 yX8_behind yX8_behind ∈ GW := gwp3 (q := (⟨"PenNurseryModel", "behind", "(I)I"⟩, 18)) (List.mem_of_getElem? (i := 15) rfl) rfl
theorem gwp4 {q : MethodName × Nat} (h : q ∈ lw_privs_4) (g : goodWord (Cond.selects q.1.cls q.1 q.1) = true) : Cond.selects q.1.cls q.1 q.1 ∈ GW := gwp (List.mem_map.mpr ⟨q, (List.mem_append_right _ (List.mem_append_right _ (List.mem_append_right _ h))), rfl⟩) g
theorem gp4_0 : Cond.selects RX8 yX8_word yX8_word ∈ GW := gwp4 (q := (⟨"PenNurseryModel", "word", "()I"⟩, 18)) (List.mem_of_getElem? (i := 0) rfl) rfl
theorem gp4_1 : Cond.selects RX8 yX8_skip yX8_skip ∈ GW := gwp4 (q := (⟨"PenNurseryModel", "skip", "(Ljava/lang/String;)V"⟩, 18)) (List.mem_of_getElem? (i := 1) rfl) rfl
theorem gp4_2 : Cond.selects RX8 yX8_readNumber yX8_readNumber ∈ GW := gwp4 (q := (⟨"PenNurseryModel", "readNumber", "(I)I"⟩, 18)) (List.mem_of_getElem? (i := 2) rfl) rfl
theorem gp4_3 : Cond.selects RX8 yX8_isDigit yX8_isDigit ∈ GW := gwp4 (q := (⟨"PenNurseryModel", "isDigit", "()Z"⟩, 18)) (List.mem_of_getElem? (i := 3) rfl) rfl
theorem gp4_4 : Cond.selects RX8 yX8_readFeather yX8_readFeather ∈ GW := gwp4 (q := (⟨"PenNurseryModel", "readFeather", "()I"⟩, 18)) (List.mem_of_getElem? (i := 4) rfl) rfl
theorem gp4_5 : Cond.selects RX8 yX8_does yX8_does ∈ GW := gwp4 (q := (⟨"PenNurseryModel", "does", "(I)V"⟩, 18)) (List.mem_of_getElem? (i := 5) rfl) rfl
