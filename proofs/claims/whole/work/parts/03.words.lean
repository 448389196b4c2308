def wAll : List Cond := lw_tbl.filter goodWord
theorem wg {w : Cond} (h : w ∈ lw_tbl) (g : goodWord w = true) : w ∈ wAll := List.mem_filter.mpr ⟨h, g⟩
theorem wt_1 : ∀ w ∈ tables_1_1, w ∈ lw_tbl := fun w h => List.mem_append_right _ (by unfold tables_1; exact (List.mem_append_left _ h))
theorem wt_2 : ∀ w ∈ tables_1_2, w ∈ lw_tbl := fun w h => List.mem_append_right _ (by unfold tables_1; exact (List.mem_append_right _ (List.mem_append_left _ h)))
theorem wt_3 : ∀ w ∈ tables_1_3, w ∈ lw_tbl := fun w h => List.mem_append_right _ (by unfold tables_1; exact (List.mem_append_right _ (List.mem_append_right _ (List.mem_append_left _ h))))
theorem wt_4 : ∀ w ∈ tables_1_4, w ∈ lw_tbl := fun w h => List.mem_append_right _ (by unfold tables_1; exact (List.mem_append_right _ (List.mem_append_right _ (List.mem_append_right _ (List.mem_append_left _ h)))))
theorem wt_5 : ∀ w ∈ tables_1_5, w ∈ lw_tbl := fun w h => List.mem_append_right _ (by unfold tables_1; exact (List.mem_append_right _ (List.mem_append_right _ (List.mem_append_right _ (List.mem_append_right _ (List.mem_append_left _ h))))))
theorem wt_6 : ∀ w ∈ tables_1_6, w ∈ lw_tbl := fun w h => List.mem_append_right _ (by unfold tables_1; exact (List.mem_append_right _ (List.mem_append_right _ (List.mem_append_right _ (List.mem_append_right _ (List.mem_append_right _ (List.mem_append_left _ h)))))))
theorem wt_7 : ∀ w ∈ tables_1_7, w ∈ lw_tbl := fun w h => List.mem_append_right _ (by unfold tables_1; exact (List.mem_append_right _ (List.mem_append_right _ (List.mem_append_right _ (List.mem_append_right _ (List.mem_append_right _ (List.mem_append_right _ (List.mem_append_left _ h))))))))
theorem wt_8 : ∀ w ∈ tables_1_8, w ∈ lw_tbl := fun w h => List.mem_append_right _ (by unfold tables_1; exact (List.mem_append_right _ (List.mem_append_right _ (List.mem_append_right _ (List.mem_append_right _ (List.mem_append_right _ (List.mem_append_right _ (List.mem_append_right _ (List.mem_append_left _ h)))))))))
theorem wt_9 : ∀ w ∈ tables_1_9, w ∈ lw_tbl := fun w h => List.mem_append_right _ (by unfold tables_1; exact (List.mem_append_right _ (List.mem_append_right _ (List.mem_append_right _ (List.mem_append_right _ (List.mem_append_right _ (List.mem_append_right _ (List.mem_append_right _ (List.mem_append_right _ (List.mem_append_left _ h))))))))))
theorem wt_10 : ∀ w ∈ tables_1_10, w ∈ lw_tbl := fun w h => List.mem_append_right _ (by unfold tables_1; exact (List.mem_append_right _ (List.mem_append_right _ (List.mem_append_right _ (List.mem_append_right _ (List.mem_append_right _ (List.mem_append_right _ (List.mem_append_right _ (List.mem_append_right _ (List.mem_append_right _ h))))))))))
theorem wm_0 : (.initialized RL : Cond) ∈ wAll := wg (wt_1 _ (List.mem_of_getElem? (i := 0) rfl)) rfl
theorem wm_1 : (.initialized RX8 : Cond) ∈ wAll := wg (wt_1 _ (List.mem_of_getElem? (i := 1) rfl)) rfl
theorem wm_2 : (.initialized RX6 : Cond) ∈ wAll := wg (wt_1 _ (List.mem_of_getElem? (i := 2) rfl)) rfl
theorem wm_3 : (.initialized RX2 : Cond) ∈ wAll := wg (wt_1 _ (List.mem_of_getElem? (i := 3) rfl)) rfl
theorem wm_4 : (.initialized RX1 : Cond) ∈ wAll := wg (wt_1 _ (List.mem_of_getElem? (i := 4) rfl)) rfl
theorem wm_5 : (.initialized RX5 : Cond) ∈ wAll := wg (wt_1 _ (List.mem_of_getElem? (i := 5) rfl)) rfl
theorem wm_6 : (.initialized RX0 : Cond) ∈ wAll := wg (wt_1 _ (List.mem_of_getElem? (i := 6) rfl)) rfl
theorem wm_7 : (.initialized RX3 : Cond) ∈ wAll := wg (wt_1 _ (List.mem_of_getElem? (i := 7) rfl)) rfl
theorem wm_8 : (.initialized RX4 : Cond) ∈ wAll := wg (wt_1 _ (List.mem_of_getElem? (i := 8) rfl)) rfl
theorem wm_9 : (.initialized RX7 : Cond) ∈ wAll := wg (wt_1 _ (List.mem_of_getElem? (i := 9) rfl)) rfl
theorem wm_10 : (.initialized RJ5 : Cond) ∈ wAll := wg (wt_1 _ (List.mem_of_getElem? (i := 10) rfl)) rfl
theorem wm_11 : (.initialized RJ4 : Cond) ∈ wAll := wg (wt_1 _ (List.mem_of_getElem? (i := 11) rfl)) rfl
theorem wm_12 : (.initialized RJ0 : Cond) ∈ wAll := wg (wt_1 _ (List.mem_of_getElem? (i := 12) rfl)) rfl
theorem wm_13 : (.initialized RJ2 : Cond) ∈ wAll := wg (wt_1 _ (List.mem_of_getElem? (i := 13) rfl)) rfl
theorem wm_14 : (.initialized RJ1 : Cond) ∈ wAll := wg (wt_1 _ (List.mem_of_getElem? (i := 14) rfl)) rfl
theorem wm_15 : (.initialized RJ3 : Cond) ∈ wAll := wg (wt_1 _ (List.mem_of_getElem? (i := 15) rfl)) rfl
theorem wm_16 : (.initialized RJ9 : Cond) ∈ wAll := wg (wt_1 _ (List.mem_of_getElem? (i := 16) rfl)) rfl
theorem wm_17 : (.initialized RX9 : Cond) ∈ wAll := wg (wt_1 _ (List.mem_of_getElem? (i := 17) rfl)) rfl
theorem wm_18 : (.initialized RJ10 : Cond) ∈ wAll := wg (wt_1 _ (List.mem_of_getElem? (i := 18) rfl)) rfl
theorem wm_19 : (.initialized "java/lang/Throwable" : Cond) ∈ wAll := wg (wt_1 _ (List.mem_of_getElem? (i := 19) rfl)) rfl
theorem wm_20 : (.initialized "java/lang/Exception" : Cond) ∈ wAll := wg (wt_1 _ (List.mem_of_getElem? (i := 20) rfl)) rfl
theorem wm_21 : (.initialized "java/lang/RuntimeException" : Cond) ∈ wAll := wg (wt_1 _ (List.mem_of_getElem? (i := 21) rfl)) rfl
theorem wm_22 : (.initialized "java/lang/IndexOutOfBoundsException" : Cond) ∈ wAll := wg (wt_1 _ (List.mem_of_getElem? (i := 22) rfl)) rfl
theorem wm_23 : (.initialized "java/lang/IllegalArgumentException" : Cond) ∈ wAll := wg (wt_1 _ (List.mem_of_getElem? (i := 23) rfl)) rfl
theorem wm_24 : (.initialized "java/lang/IllegalStateException" : Cond) ∈ wAll := wg (wt_1 _ (List.mem_of_getElem? (i := 24) rfl)) rfl
theorem wm_25 : (.initialized "java/util/NoSuchElementException" : Cond) ∈ wAll := wg (wt_1 _ (List.mem_of_getElem? (i := 25) rfl)) rfl
theorem wm_26 : (.initialized RJx7c733 : Cond) ∈ wAll := wg (wt_1 _ (List.mem_of_getElem? (i := 26) rfl)) rfl
theorem wm_27 : (.initialized RJ8 : Cond) ∈ wAll := wg (wt_1 _ (List.mem_of_getElem? (i := 27) rfl)) rfl
theorem wm_28 : (.initialized RJ7 : Cond) ∈ wAll := wg (wt_1 _ (List.mem_of_getElem? (i := 28) rfl)) rfl
theorem wm_29 : (.initialized RJxd2413 : Cond) ∈ wAll := wg (wt_1 _ (List.mem_of_getElem? (i := 29) rfl)) rfl
theorem wm_30 : (.initialized RJ6 : Cond) ∈ wAll := wg (wt_1 _ (List.mem_of_getElem? (i := 30) rfl)) rfl
theorem wm_31 : (.initialized RJx00060 : Cond) ∈ wAll := wg (wt_1 _ (List.mem_of_getElem? (i := 31) rfl)) rfl
theorem wm_32 : (.classLink RL 8 RX8 : Cond) ∈ wAll := wg (wt_1 _ (List.mem_of_getElem? (i := 32) rfl)) rfl
theorem wm_33 : (.instantiable RX8 7 : Cond) ∈ wAll := wg (wt_1 _ (List.mem_of_getElem? (i := 33) rfl)) rfl
theorem wm_34 : (.methodLink RL 137 yX8_init : Cond) ∈ wAll := wg (wt_1 _ (List.mem_of_getElem? (i := 34) rfl)) rfl
theorem wm_35 : (.instanceMethod yX8_init : Cond) ∈ wAll := wg (wt_1 _ (List.mem_of_getElem? (i := 35) rfl)) rfl
theorem wm_36 : (.code yX8_init cX8_init 2 (Option.none : Option FieldType) : Cond) ∈ wAll := wg (wt_1 _ (List.mem_of_getElem? (i := 36) rfl)) rfl
theorem wm_37 : (.methodLink RX8 1 ⟨"java/lang/Object", "<init>", "()V"⟩ : Cond) ∈ wAll := wg (wt_1 _ (List.mem_of_getElem? (i := 37) rfl)) rfl
theorem wm_38 : (.instanceMethod ⟨"java/lang/Object", "<init>", "()V"⟩ : Cond) ∈ wAll := wg (wt_1 _ (List.mem_of_getElem? (i := 38) rfl)) rfl
theorem wm_39 : (.code ⟨"java/lang/Object", "<init>", "()V"⟩ object_method_1_code 1 (Option.none : Option FieldType) : Cond) ∈ wAll := wg (wt_1 _ (List.mem_of_getElem? (i := 39) rfl)) rfl
theorem wm_40 : (.classLink RX8 7 RX6 : Cond) ∈ wAll := wg (wt_1 _ (List.mem_of_getElem? (i := 40) rfl)) rfl
theorem wm_41 : (.instantiable RX6 10 : Cond) ∈ wAll := wg (wt_1 _ (List.mem_of_getElem? (i := 41) rfl)) rfl
theorem wm_43 : (.instanceMethod yX6_init : Cond) ∈ wAll := wg (wt_1 _ (List.mem_of_getElem? (i := 43) rfl)) rfl
theorem wm_44 : (.code yX6_init cX6_init 1 (Option.none : Option FieldType) : Cond) ∈ wAll := wg (wt_1 _ (List.mem_of_getElem? (i := 44) rfl)) rfl
theorem wm_45 : (.methodLink RX6 3 ⟨"java/lang/Object", "<init>", "()V"⟩ : Cond) ∈ wAll := wg (wt_1 _ (List.mem_of_getElem? (i := 45) rfl)) rfl
theorem wm_46 : (.classLink RX6 9 RX2 : Cond) ∈ wAll := wg (wt_1 _ (List.mem_of_getElem? (i := 46) rfl)) rfl
theorem wm_47 : (.instantiable RX2 7 : Cond) ∈ wAll := wg (wt_1 _ (List.mem_of_getElem? (i := 47) rfl)) rfl
theorem wm_49 : (.instanceMethod yX2_init : Cond) ∈ wAll := wg (wt_1 _ (List.mem_of_getElem? (i := 49) rfl)) rfl
theorem wm_50 : (.code yX2_init cX2_init 1 (Option.none : Option FieldType) : Cond) ∈ wAll := wg (wt_1 _ (List.mem_of_getElem? (i := 50) rfl)) rfl
theorem wm_51 : (.methodLink RX2 3 ⟨"java/lang/Object", "<init>", "()V"⟩ : Cond) ∈ wAll := wg (wt_1 _ (List.mem_of_getElem? (i := 51) rfl)) rfl
theorem wm_52 : (.classLink RX2 18 "[[I" : Cond) ∈ wAll := wg (wt_1 _ (List.mem_of_getElem? (i := 52) rfl)) rfl
theorem wm_54 : (.fieldLink RX2 32 "PennyBakery$Flours" "count" "I" : Cond) ∈ wAll := wg (wt_1 _ (List.mem_of_getElem? (i := 54) rfl)) rfl
theorem wm_55 : (.fieldLink RX6 71 "PennyBakery$Flours" "count" "I" : Cond) ∈ wAll := wg (wt_1 _ (List.mem_of_getElem? (i := 55) rfl)) rfl
theorem wm_56 : (.fieldLink RX4 87 "PennyBakery$Flours" "count" "I" : Cond) ∈ wAll := wg (wt_1 _ (List.mem_of_getElem? (i := 56) rfl)) rfl
theorem wm_57 : (.fieldLink RX8 129 "PennyBakery$Flours" "count" "I" : Cond) ∈ wAll := wg (wt_1 _ (List.mem_of_getElem? (i := 57) rfl)) rfl
theorem wm_58 : (.fieldLink RX2 9 "PennyBakery$Flours" "price" "[I" : Cond) ∈ wAll := wg (wt_1 _ (List.mem_of_getElem? (i := 58) rfl)) rfl
theorem wm_59 : (.fieldLink RX6 91 "PennyBakery$Flours" "price" "[I" : Cond) ∈ wAll := wg (wt_1 _ (List.mem_of_getElem? (i := 59) rfl)) rfl
theorem wm_60 : (.fieldLink RX8 135 "PennyBakery$Flours" "price" "[I" : Cond) ∈ wAll := wg (wt_1 _ (List.mem_of_getElem? (i := 60) rfl)) rfl
theorem wm_61 : (.fieldLink RX2 15 "PennyBakery$Flours" "lots" "[I" : Cond) ∈ wAll := wg (wt_1 _ (List.mem_of_getElem? (i := 61) rfl)) rfl
theorem wm_62 : (.fieldLink RX6 98 "PennyBakery$Flours" "lots" "[I" : Cond) ∈ wAll := wg (wt_1 _ (List.mem_of_getElem? (i := 62) rfl)) rfl
theorem wm_63 : (.fieldLink RX8 142 "PennyBakery$Flours" "lots" "[I" : Cond) ∈ wAll := wg (wt_1 _ (List.mem_of_getElem? (i := 63) rfl)) rfl
theorem wm_64 : (.fieldLink RX2 20 "PennyBakery$Flours" "units" "[[I" : Cond) ∈ wAll := wg (wt_1 _ (List.mem_of_getElem? (i := 64) rfl)) rfl
theorem wm_65 : (.fieldLink RX8 149 "PennyBakery$Flours" "units" "[[I" : Cond) ∈ wAll := wg (wt_1 _ (List.mem_of_getElem? (i := 65) rfl)) rfl
theorem wm_66 : (.fieldLink RX2 23 "PennyBakery$Flours" "paid" "[[I" : Cond) ∈ wAll := wg (wt_1 _ (List.mem_of_getElem? (i := 66) rfl)) rfl
theorem wm_67 : (.fieldLink RX8 153 "PennyBakery$Flours" "paid" "[[I" : Cond) ∈ wAll := wg (wt_1 _ (List.mem_of_getElem? (i := 67) rfl)) rfl
theorem wm_68 : (.fieldLink RX2 26 "PennyBakery$Flours" "priceGaps" "[I" : Cond) ∈ wAll := wg (wt_1 _ (List.mem_of_getElem? (i := 68) rfl)) rfl
theorem wm_69 : (.fieldLink RX6 178 "PennyBakery$Flours" "priceGaps" "[I" : Cond) ∈ wAll := wg (wt_1 _ (List.mem_of_getElem? (i := 69) rfl)) rfl
theorem wm_70 : (.fieldLink RX8 242 "PennyBakery$Flours" "priceGaps" "[I" : Cond) ∈ wAll := wg (wt_1 _ (List.mem_of_getElem? (i := 70) rfl)) rfl
theorem wm_71 : (.fieldLink RX2 29 "PennyBakery$Flours" "useGaps" "[I" : Cond) ∈ wAll := wg (wt_1 _ (List.mem_of_getElem? (i := 71) rfl)) rfl
theorem wm_72 : (.fieldLink RX6 181 "PennyBakery$Flours" "useGaps" "[I" : Cond) ∈ wAll := wg (wt_1 _ (List.mem_of_getElem? (i := 72) rfl)) rfl
theorem wm_73 : (.fieldLink RX8 245 "PennyBakery$Flours" "useGaps" "[I" : Cond) ∈ wAll := wg (wt_1 _ (List.mem_of_getElem? (i := 73) rfl)) rfl
theorem wm_74 : (.lays "PennyBakery$Flours" "PennyBakery$Flours" "count" "I" : Cond) ∈ wAll := wg (wt_1 _ (List.mem_of_getElem? (i := 74) rfl)) rfl
theorem wm_76 : (.laysFinal "PennyBakery$Flours" "PennyBakery$Flours" "price" "[I" : Cond) ∈ wAll := wg (wt_1 _ (List.mem_of_getElem? (i := 76) rfl)) rfl
theorem wm_78 : (.laysFinal "PennyBakery$Flours" "PennyBakery$Flours" "lots" "[I" : Cond) ∈ wAll := wg (wt_1 _ (List.mem_of_getElem? (i := 78) rfl)) rfl
theorem wm_80 : (.laysFinal "PennyBakery$Flours" "PennyBakery$Flours" "units" "[[I" : Cond) ∈ wAll := wg (wt_1 _ (List.mem_of_getElem? (i := 80) rfl)) rfl
theorem wm_82 : (.laysFinal "PennyBakery$Flours" "PennyBakery$Flours" "paid" "[[I" : Cond) ∈ wAll := wg (wt_1 _ (List.mem_of_getElem? (i := 82) rfl)) rfl
theorem wm_84 : (.laysFinal "PennyBakery$Flours" "PennyBakery$Flours" "priceGaps" "[I" : Cond) ∈ wAll := wg (wt_1 _ (List.mem_of_getElem? (i := 84) rfl)) rfl
theorem wm_86 : (.laysFinal "PennyBakery$Flours" "PennyBakery$Flours" "useGaps" "[I" : Cond) ∈ wAll := wg (wt_1 _ (List.mem_of_getElem? (i := 86) rfl)) rfl
theorem wm_88 : (.superclass "PennyBakery$Flours" "java/lang/Object" : Cond) ∈ wAll := wg (wt_1 _ (List.mem_of_getElem? (i := 88) rfl)) rfl
theorem wm_89 : (.arrayClass FieldType.int : Cond) ∈ wAll := wg (wt_1 _ (List.mem_of_getElem? (i := 89) rfl)) rfl
theorem wm_90 : (.classLink RX6 18 RX1 : Cond) ∈ wAll := wg (wt_1 _ (List.mem_of_getElem? (i := 90) rfl)) rfl
theorem wm_91 : (.instantiable RX1 8 : Cond) ∈ wAll := wg (wt_1 _ (List.mem_of_getElem? (i := 91) rfl)) rfl
theorem wm_93 : (.instanceMethod yX1_init : Cond) ∈ wAll := wg (wt_1 _ (List.mem_of_getElem? (i := 93) rfl)) rfl
theorem wm_94 : (.code yX1_init cX1_init 1 (Option.none : Option FieldType) : Cond) ∈ wAll := wg (wt_1 _ (List.mem_of_getElem? (i := 94) rfl)) rfl
theorem wm_95 : (.methodLink RX1 3 ⟨"java/lang/Object", "<init>", "()V"⟩ : Cond) ∈ wAll := wg (wt_1 _ (List.mem_of_getElem? (i := 95) rfl)) rfl
theorem wm_96 : (.classLink RX1 30 "[[I" : Cond) ∈ wAll := wg (wt_1 _ (List.mem_of_getElem? (i := 96) rfl)) rfl
theorem wm_97 : (.fieldLink RX1 35 "PennyBakery$Breads" "count" "I" : Cond) ∈ wAll := wg (wt_1 _ (List.mem_of_getElem? (i := 97) rfl)) rfl
theorem wm_98 : (.fieldLink RX6 74 "PennyBakery$Breads" "count" "I" : Cond) ∈ wAll := wg (wt_1 _ (List.mem_of_getElem? (i := 98) rfl)) rfl
theorem wm_99 : (.fieldLink RX4 96 "PennyBakery$Breads" "count" "I" : Cond) ∈ wAll := wg (wt_1 _ (List.mem_of_getElem? (i := 99) rfl)) rfl
theorem wm_100 : (.fieldLink RX8 160 "PennyBakery$Breads" "count" "I" : Cond) ∈ wAll := wg (wt_1 _ (List.mem_of_getElem? (i := 100) rfl)) rfl
theorem wm_101 : (.fieldLink RX1 9 "PennyBakery$Breads" "list" "[I" : Cond) ∈ wAll := wg (wt_1 _ (List.mem_of_getElem? (i := 101) rfl)) rfl
theorem wm_102 : (.fieldLink RX6 190 "PennyBakery$Breads" "list" "[I" : Cond) ∈ wAll := wg (wt_1 _ (List.mem_of_getElem? (i := 102) rfl)) rfl
theorem wm_103 : (.fieldLink RX8 166 "PennyBakery$Breads" "list" "[I" : Cond) ∈ wAll := wg (wt_1 _ (List.mem_of_getElem? (i := 103) rfl)) rfl
theorem wm_104 : (.fieldLink RX1 15 "PennyBakery$Breads" "minutes" "[I" : Cond) ∈ wAll := wg (wt_1 _ (List.mem_of_getElem? (i := 104) rfl)) rfl
theorem wm_105 : (.fieldLink RX6 109 "PennyBakery$Breads" "minutes" "[I" : Cond) ∈ wAll := wg (wt_1 _ (List.mem_of_getElem? (i := 105) rfl)) rfl
theorem wm_106 : (.fieldLink RX8 169 "PennyBakery$Breads" "minutes" "[I" : Cond) ∈ wAll := wg (wt_1 _ (List.mem_of_getElem? (i := 106) rfl)) rfl
theorem wm_107 : (.fieldLink RX1 18 "PennyBakery$Breads" "cost" "[I" : Cond) ∈ wAll := wg (wt_1 _ (List.mem_of_getElem? (i := 107) rfl)) rfl
theorem wm_108 : (.fieldLink RX6 95 "PennyBakery$Breads" "cost" "[I" : Cond) ∈ wAll := wg (wt_1 _ (List.mem_of_getElem? (i := 108) rfl)) rfl
theorem wm_109 : (.fieldLink RX8 175 "PennyBakery$Breads" "cost" "[I" : Cond) ∈ wAll := wg (wt_1 _ (List.mem_of_getElem? (i := 109) rfl)) rfl
theorem wm_110 : (.fieldLink RX1 21 "PennyBakery$Breads" "mainFlour" "[I" : Cond) ∈ wAll := wg (wt_1 _ (List.mem_of_getElem? (i := 110) rfl)) rfl
theorem wm_111 : (.fieldLink RX1 24 "PennyBakery$Breads" "loaves" "[I" : Cond) ∈ wAll := wg (wt_1 _ (List.mem_of_getElem? (i := 111) rfl)) rfl
theorem wm_112 : (.fieldLink RX6 141 "PennyBakery$Breads" "loaves" "[I" : Cond) ∈ wAll := wg (wt_1 _ (List.mem_of_getElem? (i := 112) rfl)) rfl
theorem wm_113 : (.fieldLink RX8 178 "PennyBakery$Breads" "loaves" "[I" : Cond) ∈ wAll := wg (wt_1 _ (List.mem_of_getElem? (i := 113) rfl)) rfl
theorem wm_114 : (.fieldLink RX1 27 "PennyBakery$Breads" "sold" "[I" : Cond) ∈ wAll := wg (wt_1 _ (List.mem_of_getElem? (i := 114) rfl)) rfl
theorem wm_115 : (.fieldLink RX6 187 "PennyBakery$Breads" "sold" "[I" : Cond) ∈ wAll := wg (wt_1 _ (List.mem_of_getElem? (i := 115) rfl)) rfl
theorem wm_116 : (.fieldLink RX1 32 "PennyBakery$Breads" "amounts" "[[I" : Cond) ∈ wAll := wg (wt_1 _ (List.mem_of_getElem? (i := 116) rfl)) rfl
theorem wm_117 : (.fieldLink RX6 87 "PennyBakery$Breads" "amounts" "[[I" : Cond) ∈ wAll := wg (wt_1 _ (List.mem_of_getElem? (i := 117) rfl)) rfl
theorem wm_118 : (.fieldLink RX8 172 "PennyBakery$Breads" "amounts" "[[I" : Cond) ∈ wAll := wg (wt_1 _ (List.mem_of_getElem? (i := 118) rfl)) rfl
theorem wm_119 : (.lays "PennyBakery$Breads" "PennyBakery$Breads" "count" "I" : Cond) ∈ wAll := wg (wt_1 _ (List.mem_of_getElem? (i := 119) rfl)) rfl
theorem wm_121 : (.laysFinal "PennyBakery$Breads" "PennyBakery$Breads" "list" "[I" : Cond) ∈ wAll := wg (wt_1 _ (List.mem_of_getElem? (i := 121) rfl)) rfl
theorem wm_123 : (.laysFinal "PennyBakery$Breads" "PennyBakery$Breads" "minutes" "[I" : Cond) ∈ wAll := wg (wt_1 _ (List.mem_of_getElem? (i := 123) rfl)) rfl
theorem wm_125 : (.laysFinal "PennyBakery$Breads" "PennyBakery$Breads" "cost" "[I" : Cond) ∈ wAll := wg (wt_1 _ (List.mem_of_getElem? (i := 125) rfl)) rfl
theorem wm_127 : (.laysFinal "PennyBakery$Breads" "PennyBakery$Breads" "mainFlour" "[I" : Cond) ∈ wAll := wg (wt_1 _ (List.mem_of_getElem? (i := 127) rfl)) rfl
theorem wm_129 : (.laysFinal "PennyBakery$Breads" "PennyBakery$Breads" "loaves" "[I" : Cond) ∈ wAll := wg (wt_1 _ (List.mem_of_getElem? (i := 129) rfl)) rfl
theorem wm_131 : (.laysFinal "PennyBakery$Breads" "PennyBakery$Breads" "sold" "[I" : Cond) ∈ wAll := wg (wt_1 _ (List.mem_of_getElem? (i := 131) rfl)) rfl
theorem wm_133 : (.laysFinal "PennyBakery$Breads" "PennyBakery$Breads" "amounts" "[[I" : Cond) ∈ wAll := wg (wt_1 _ (List.mem_of_getElem? (i := 133) rfl)) rfl
theorem wm_135 : (.superclass "PennyBakery$Breads" "java/lang/Object" : Cond) ∈ wAll := wg (wt_1 _ (List.mem_of_getElem? (i := 135) rfl)) rfl
theorem wm_136 : (.classLink RX6 25 RX5 : Cond) ∈ wAll := wg (wt_1 _ (List.mem_of_getElem? (i := 136) rfl)) rfl
theorem wm_137 : (.instantiable RX5 4 : Cond) ∈ wAll := wg (wt_1 _ (List.mem_of_getElem? (i := 137) rfl)) rfl
theorem wm_139 : (.instanceMethod yX5_init : Cond) ∈ wAll := wg (wt_1 _ (List.mem_of_getElem? (i := 139) rfl)) rfl
theorem wm_140 : (.code yX5_init cX5_init 1 (Option.none : Option FieldType) : Cond) ∈ wAll := wg (wt_1 _ (List.mem_of_getElem? (i := 140) rfl)) rfl
theorem wm_141 : (.methodLink RX5 3 ⟨"java/lang/Object", "<init>", "()V"⟩ : Cond) ∈ wAll := wg (wt_1 _ (List.mem_of_getElem? (i := 141) rfl)) rfl
theorem wm_142 : (.fieldLink RX5 18 "PennyBakery$Ovens" "count" "I" : Cond) ∈ wAll := wg (wt_1 _ (List.mem_of_getElem? (i := 142) rfl)) rfl
theorem wm_143 : (.fieldLink RX8 185 "PennyBakery$Ovens" "count" "I" : Cond) ∈ wAll := wg (wt_1 _ (List.mem_of_getElem? (i := 143) rfl)) rfl
theorem wm_144 : (.fieldLink RX5 22 "PennyBakery$Ovens" "standard" "I" : Cond) ∈ wAll := wg (wt_1 _ (List.mem_of_getElem? (i := 144) rfl)) rfl
theorem wm_145 : (.fieldLink RX6 84 "PennyBakery$Ovens" "standard" "I" : Cond) ∈ wAll := wg (wt_1 _ (List.mem_of_getElem? (i := 145) rfl)) rfl
theorem wm_146 : (.fieldLink RX8 204 "PennyBakery$Ovens" "standard" "I" : Cond) ∈ wAll := wg (wt_1 _ (List.mem_of_getElem? (i := 146) rfl)) rfl
theorem wm_147 : (.fieldLink RX5 9 "PennyBakery$Ovens" "free" "[I" : Cond) ∈ wAll := wg (wt_1 _ (List.mem_of_getElem? (i := 147) rfl)) rfl
theorem wm_148 : (.fieldLink RX6 171 "PennyBakery$Ovens" "free" "[I" : Cond) ∈ wAll := wg (wt_1 _ (List.mem_of_getElem? (i := 148) rfl)) rfl
theorem wm_149 : (.fieldLink RX8 191 "PennyBakery$Ovens" "free" "[I" : Cond) ∈ wAll := wg (wt_1 _ (List.mem_of_getElem? (i := 149) rfl)) rfl
theorem wm_150 : (.fieldLink RX5 15 "PennyBakery$Ovens" "rates" "[I" : Cond) ∈ wAll := wg (wt_1 _ (List.mem_of_getElem? (i := 150) rfl)) rfl
theorem wm_151 : (.fieldLink RX4 140 "PennyBakery$Ovens" "rates" "[I" : Cond) ∈ wAll := wg (wt_1 _ (List.mem_of_getElem? (i := 151) rfl)) rfl
theorem wm_152 : (.fieldLink RX8 201 "PennyBakery$Ovens" "rates" "[I" : Cond) ∈ wAll := wg (wt_1 _ (List.mem_of_getElem? (i := 152) rfl)) rfl
theorem wm_153 : (.lays "PennyBakery$Ovens" "PennyBakery$Ovens" "count" "I" : Cond) ∈ wAll := wg (wt_1 _ (List.mem_of_getElem? (i := 153) rfl)) rfl
theorem wm_155 : (.lays "PennyBakery$Ovens" "PennyBakery$Ovens" "standard" "I" : Cond) ∈ wAll := wg (wt_1 _ (List.mem_of_getElem? (i := 155) rfl)) rfl
theorem wm_157 : (.laysFinal "PennyBakery$Ovens" "PennyBakery$Ovens" "free" "[I" : Cond) ∈ wAll := wg (wt_1 _ (List.mem_of_getElem? (i := 157) rfl)) rfl
theorem wm_159 : (.laysFinal "PennyBakery$Ovens" "PennyBakery$Ovens" "rates" "[I" : Cond) ∈ wAll := wg (wt_1 _ (List.mem_of_getElem? (i := 159) rfl)) rfl
theorem wm_161 : (.superclass "PennyBakery$Ovens" "java/lang/Object" : Cond) ∈ wAll := wg (wt_1 _ (List.mem_of_getElem? (i := 161) rfl)) rfl
theorem wm_162 : (.classLink RX6 32 RX0 : Cond) ∈ wAll := wg (wt_1 _ (List.mem_of_getElem? (i := 162) rfl)) rfl
theorem wm_163 : (.instantiable RX0 10 : Cond) ∈ wAll := wg (wt_1 _ (List.mem_of_getElem? (i := 163) rfl)) rfl
theorem wm_165 : (.instanceMethod yX0_init : Cond) ∈ wAll := wg (wt_1 _ (List.mem_of_getElem? (i := 165) rfl)) rfl
theorem wm_166 : (.code yX0_init cX0_init 1 (Option.none : Option FieldType) : Cond) ∈ wAll := wg (wt_1 _ (List.mem_of_getElem? (i := 166) rfl)) rfl
theorem wm_167 : (.methodLink RX0 3 ⟨"java/lang/Object", "<init>", "()V"⟩ : Cond) ∈ wAll := wg (wt_1 _ (List.mem_of_getElem? (i := 167) rfl)) rfl
theorem wm_168 : (.classLink RX0 36 "[[I" : Cond) ∈ wAll := wg (wt_1 _ (List.mem_of_getElem? (i := 168) rfl)) rfl
theorem wm_169 : (.fieldLink RX0 41 "PennyBakery$Batches" "count" "I" : Cond) ∈ wAll := wg (wt_1 _ (List.mem_of_getElem? (i := 169) rfl)) rfl
theorem wm_170 : (.fieldLink RX6 75 "PennyBakery$Batches" "count" "I" : Cond) ∈ wAll := wg (wt_1 _ (List.mem_of_getElem? (i := 170) rfl)) rfl
theorem wm_171 : (.fieldLink RX8 97 "PennyBakery$Batches" "count" "I" : Cond) ∈ wAll := wg (wt_1 _ (List.mem_of_getElem? (i := 171) rfl)) rfl
theorem wm_172 : (.fieldLink RX0 9 "PennyBakery$Batches" "bread" "[I" : Cond) ∈ wAll := wg (wt_1 _ (List.mem_of_getElem? (i := 172) rfl)) rfl
theorem wm_173 : (.fieldLink RX6 123 "PennyBakery$Batches" "bread" "[I" : Cond) ∈ wAll := wg (wt_1 _ (List.mem_of_getElem? (i := 173) rfl)) rfl
theorem wm_174 : (.fieldLink RX8 210 "PennyBakery$Batches" "bread" "[I" : Cond) ∈ wAll := wg (wt_1 _ (List.mem_of_getElem? (i := 174) rfl)) rfl
theorem wm_175 : (.fieldLink RX0 15 "PennyBakery$Batches" "planned" "[I" : Cond) ∈ wAll := wg (wt_1 _ (List.mem_of_getElem? (i := 175) rfl)) rfl
theorem wm_176 : (.fieldLink RX6 126 "PennyBakery$Batches" "planned" "[I" : Cond) ∈ wAll := wg (wt_1 _ (List.mem_of_getElem? (i := 176) rfl)) rfl
theorem wm_177 : (.fieldLink RX8 213 "PennyBakery$Batches" "planned" "[I" : Cond) ∈ wAll := wg (wt_1 _ (List.mem_of_getElem? (i := 177) rfl)) rfl
theorem wm_178 : (.fieldLink RX0 18 "PennyBakery$Batches" "burnt" "[I" : Cond) ∈ wAll := wg (wt_1 _ (List.mem_of_getElem? (i := 178) rfl)) rfl
theorem wm_179 : (.fieldLink RX6 129 "PennyBakery$Batches" "burnt" "[I" : Cond) ∈ wAll := wg (wt_1 _ (List.mem_of_getElem? (i := 179) rfl)) rfl
theorem wm_180 : (.fieldLink RX8 216 "PennyBakery$Batches" "burnt" "[I" : Cond) ∈ wAll := wg (wt_1 _ (List.mem_of_getElem? (i := 180) rfl)) rfl
theorem wm_181 : (.fieldLink RX0 21 "PennyBakery$Batches" "start" "[I" : Cond) ∈ wAll := wg (wt_1 _ (List.mem_of_getElem? (i := 181) rfl)) rfl
theorem wm_182 : (.fieldLink RX6 174 "PennyBakery$Batches" "start" "[I" : Cond) ∈ wAll := wg (wt_1 _ (List.mem_of_getElem? (i := 182) rfl)) rfl
theorem wm_183 : (.fieldLink RX8 219 "PennyBakery$Batches" "start" "[I" : Cond) ∈ wAll := wg (wt_1 _ (List.mem_of_getElem? (i := 183) rfl)) rfl
theorem wm_184 : (.fieldLink RX0 24 "PennyBakery$Batches" "minutes" "[I" : Cond) ∈ wAll := wg (wt_1 _ (List.mem_of_getElem? (i := 184) rfl)) rfl
theorem wm_185 : (.fieldLink RX6 177 "PennyBakery$Batches" "minutes" "[I" : Cond) ∈ wAll := wg (wt_1 _ (List.mem_of_getElem? (i := 185) rfl)) rfl
theorem wm_186 : (.fieldLink RX8 222 "PennyBakery$Batches" "minutes" "[I" : Cond) ∈ wAll := wg (wt_1 _ (List.mem_of_getElem? (i := 186) rfl)) rfl
theorem wm_187 : (.fieldLink RX0 27 "PennyBakery$Batches" "flourCost" "[I" : Cond) ∈ wAll := wg (wt_1 _ (List.mem_of_getElem? (i := 187) rfl)) rfl
theorem wm_188 : (.fieldLink RX6 132 "PennyBakery$Batches" "flourCost" "[I" : Cond) ∈ wAll := wg (wt_1 _ (List.mem_of_getElem? (i := 188) rfl)) rfl
theorem wm_189 : (.fieldLink RX8 223 "PennyBakery$Batches" "flourCost" "[I" : Cond) ∈ wAll := wg (wt_1 _ (List.mem_of_getElem? (i := 189) rfl)) rfl
theorem wm_190 : (.fieldLink RX0 30 "PennyBakery$Batches" "ovenCost" "[I" : Cond) ∈ wAll := wg (wt_1 _ (List.mem_of_getElem? (i := 190) rfl)) rfl
theorem wm_191 : (.fieldLink RX6 147 "PennyBakery$Batches" "ovenCost" "[I" : Cond) ∈ wAll := wg (wt_1 _ (List.mem_of_getElem? (i := 191) rfl)) rfl
theorem wm_192 : (.fieldLink RX8 226 "PennyBakery$Batches" "ovenCost" "[I" : Cond) ∈ wAll := wg (wt_1 _ (List.mem_of_getElem? (i := 192) rfl)) rfl
theorem wm_193 : (.fieldLink RX0 33 "PennyBakery$Batches" "loss" "[I" : Cond) ∈ wAll := wg (wt_1 _ (List.mem_of_getElem? (i := 193) rfl)) rfl
theorem wm_194 : (.fieldLink RX6 144 "PennyBakery$Batches" "loss" "[I" : Cond) ∈ wAll := wg (wt_1 _ (List.mem_of_getElem? (i := 194) rfl)) rfl
theorem wm_195 : (.fieldLink RX8 229 "PennyBakery$Batches" "loss" "[I" : Cond) ∈ wAll := wg (wt_1 _ (List.mem_of_getElem? (i := 195) rfl)) rfl
theorem wm_196 : (.fieldLink RX0 38 "PennyBakery$Batches" "gaps" "[[I" : Cond) ∈ wAll := wg (wt_1 _ (List.mem_of_getElem? (i := 196) rfl)) rfl
theorem wm_197 : (.fieldLink RX6 150 "PennyBakery$Batches" "gaps" "[[I" : Cond) ∈ wAll := wg (wt_1 _ (List.mem_of_getElem? (i := 197) rfl)) rfl
theorem wm_198 : (.fieldLink RX8 232 "PennyBakery$Batches" "gaps" "[[I" : Cond) ∈ wAll := wg (wt_1 _ (List.mem_of_getElem? (i := 198) rfl)) rfl
theorem wm_199 : (.lays "PennyBakery$Batches" "PennyBakery$Batches" "count" "I" : Cond) ∈ wAll := wg (wt_1 _ (List.mem_of_getElem? (i := 199) rfl)) rfl
theorem wm_201 : (.laysFinal "PennyBakery$Batches" "PennyBakery$Batches" "bread" "[I" : Cond) ∈ wAll := wg (wt_1 _ (List.mem_of_getElem? (i := 201) rfl)) rfl
theorem wm_203 : (.laysFinal "PennyBakery$Batches" "PennyBakery$Batches" "planned" "[I" : Cond) ∈ wAll := wg (wt_1 _ (List.mem_of_getElem? (i := 203) rfl)) rfl
theorem wm_205 : (.laysFinal "PennyBakery$Batches" "PennyBakery$Batches" "burnt" "[I" : Cond) ∈ wAll := wg (wt_1 _ (List.mem_of_getElem? (i := 205) rfl)) rfl
theorem wm_207 : (.laysFinal "PennyBakery$Batches" "PennyBakery$Batches" "start" "[I" : Cond) ∈ wAll := wg (wt_1 _ (List.mem_of_getElem? (i := 207) rfl)) rfl
theorem wm_209 : (.laysFinal "PennyBakery$Batches" "PennyBakery$Batches" "minutes" "[I" : Cond) ∈ wAll := wg (wt_1 _ (List.mem_of_getElem? (i := 209) rfl)) rfl
theorem wm_211 : (.laysFinal "PennyBakery$Batches" "PennyBakery$Batches" "flourCost" "[I" : Cond) ∈ wAll := wg (wt_1 _ (List.mem_of_getElem? (i := 211) rfl)) rfl
theorem wm_213 : (.laysFinal "PennyBakery$Batches" "PennyBakery$Batches" "ovenCost" "[I" : Cond) ∈ wAll := wg (wt_1 _ (List.mem_of_getElem? (i := 213) rfl)) rfl
theorem wm_215 : (.laysFinal "PennyBakery$Batches" "PennyBakery$Batches" "loss" "[I" : Cond) ∈ wAll := wg (wt_1 _ (List.mem_of_getElem? (i := 215) rfl)) rfl
theorem wm_217 : (.laysFinal "PennyBakery$Batches" "PennyBakery$Batches" "gaps" "[[I" : Cond) ∈ wAll := wg (wt_1 _ (List.mem_of_getElem? (i := 217) rfl)) rfl
theorem wm_219 : (.superclass "PennyBakery$Batches" "java/lang/Object" : Cond) ∈ wAll := wg (wt_1 _ (List.mem_of_getElem? (i := 219) rfl)) rfl
theorem wm_220 : (.fieldLink RX6 39 "PennyBakery$State" "clock" "I" : Cond) ∈ wAll := wg (wt_1 _ (List.mem_of_getElem? (i := 220) rfl)) rfl
theorem wm_221 : (.fieldLink RX8 118 "PennyBakery$State" "clock" "I" : Cond) ∈ wAll := wg (wt_1 _ (List.mem_of_getElem? (i := 221) rfl)) rfl
theorem wm_222 : (.fieldLink RX4 152 "PennyBakery$State" "clock" "I" : Cond) ∈ wAll := wg (wt_1 _ (List.mem_of_getElem? (i := 222) rfl)) rfl
theorem wm_223 : (.fieldLink RX6 43 "PennyBakery$State" "cash" "I" : Cond) ∈ wAll := wg (wt_1 _ (List.mem_of_getElem? (i := 223) rfl)) rfl
theorem wm_224 : (.fieldLink RX8 121 "PennyBakery$State" "cash" "I" : Cond) ∈ wAll := wg (wt_1 _ (List.mem_of_getElem? (i := 224) rfl)) rfl
theorem wm_225 : (.fieldLink RX6 46 "PennyBakery$State" "firstCash" "I" : Cond) ∈ wAll := wg (wt_1 _ (List.mem_of_getElem? (i := 225) rfl)) rfl
theorem wm_226 : (.fieldLink RX6 49 "PennyBakery$State" "earned" "I" : Cond) ∈ wAll := wg (wt_1 _ (List.mem_of_getElem? (i := 226) rfl)) rfl
theorem wm_227 : (.fieldLink RX8 277 "PennyBakery$State" "earned" "I" : Cond) ∈ wAll := wg (wt_1 _ (List.mem_of_getElem? (i := 227) rfl)) rfl
theorem wm_228 : (.fieldLink RX6 52 "PennyBakery$State" "paidForFlour" "I" : Cond) ∈ wAll := wg (wt_1 _ (List.mem_of_getElem? (i := 228) rfl)) rfl
theorem wm_229 : (.fieldLink RX8 280 "PennyBakery$State" "paidForFlour" "I" : Cond) ∈ wAll := wg (wt_1 _ (List.mem_of_getElem? (i := 229) rfl)) rfl
theorem wm_230 : (.fieldLink RX6 55 "PennyBakery$State" "salesGap" "I" : Cond) ∈ wAll := wg (wt_1 _ (List.mem_of_getElem? (i := 230) rfl)) rfl
theorem wm_231 : (.fieldLink RX6 12 "PennyBakery$State" "flours" "LPennyBakery$Flours;" : Cond) ∈ wAll := wg (wt_1 _ (List.mem_of_getElem? (i := 231) rfl)) rfl
theorem wm_232 : (.fieldLink RX4 83 "PennyBakery$State" "flours" "LPennyBakery$Flours;" : Cond) ∈ wAll := wg (wt_1 _ (List.mem_of_getElem? (i := 232) rfl)) rfl
theorem wm_233 : (.fieldLink RX8 125 "PennyBakery$State" "flours" "LPennyBakery$Flours;" : Cond) ∈ wAll := wg (wt_1 _ (List.mem_of_getElem? (i := 233) rfl)) rfl
theorem wm_234 : (.fieldLink RX6 21 "PennyBakery$State" "breads" "LPennyBakery$Breads;" : Cond) ∈ wAll := wg (wt_1 _ (List.mem_of_getElem? (i := 234) rfl)) rfl
theorem wm_235 : (.fieldLink RX4 92 "PennyBakery$State" "breads" "LPennyBakery$Breads;" : Cond) ∈ wAll := wg (wt_1 _ (List.mem_of_getElem? (i := 235) rfl)) rfl
theorem wm_236 : (.fieldLink RX8 156 "PennyBakery$State" "breads" "LPennyBakery$Breads;" : Cond) ∈ wAll := wg (wt_1 _ (List.mem_of_getElem? (i := 236) rfl)) rfl
theorem wm_237 : (.fieldLink RX6 28 "PennyBakery$State" "ovens" "LPennyBakery$Ovens;" : Cond) ∈ wAll := wg (wt_1 _ (List.mem_of_getElem? (i := 237) rfl)) rfl
theorem wm_238 : (.fieldLink RX4 136 "PennyBakery$State" "ovens" "LPennyBakery$Ovens;" : Cond) ∈ wAll := wg (wt_1 _ (List.mem_of_getElem? (i := 238) rfl)) rfl
theorem wm_239 : (.fieldLink RX8 181 "PennyBakery$State" "ovens" "LPennyBakery$Ovens;" : Cond) ∈ wAll := wg (wt_1 _ (List.mem_of_getElem? (i := 239) rfl)) rfl
theorem wm_240 : (.fieldLink RX6 35 "PennyBakery$State" "batches" "LPennyBakery$Batches;" : Cond) ∈ wAll := wg (wt_2 _ (List.mem_of_getElem? (i := 0) rfl)) rfl
theorem wm_241 : (.fieldLink RX8 93 "PennyBakery$State" "batches" "LPennyBakery$Batches;" : Cond) ∈ wAll := wg (wt_2 _ (List.mem_of_getElem? (i := 1) rfl)) rfl
theorem wm_242 : (.lays "PennyBakery$State" "PennyBakery$State" "clock" "I" : Cond) ∈ wAll := wg (wt_2 _ (List.mem_of_getElem? (i := 2) rfl)) rfl
theorem wm_244 : (.lays "PennyBakery$State" "PennyBakery$State" "cash" "I" : Cond) ∈ wAll := wg (wt_2 _ (List.mem_of_getElem? (i := 4) rfl)) rfl
theorem wm_246 : (.lays "PennyBakery$State" "PennyBakery$State" "firstCash" "I" : Cond) ∈ wAll := wg (wt_2 _ (List.mem_of_getElem? (i := 6) rfl)) rfl
theorem wm_248 : (.lays "PennyBakery$State" "PennyBakery$State" "earned" "I" : Cond) ∈ wAll := wg (wt_2 _ (List.mem_of_getElem? (i := 8) rfl)) rfl
theorem wm_250 : (.lays "PennyBakery$State" "PennyBakery$State" "paidForFlour" "I" : Cond) ∈ wAll := wg (wt_2 _ (List.mem_of_getElem? (i := 10) rfl)) rfl
theorem wm_252 : (.lays "PennyBakery$State" "PennyBakery$State" "salesGap" "I" : Cond) ∈ wAll := wg (wt_2 _ (List.mem_of_getElem? (i := 12) rfl)) rfl
theorem wm_254 : (.laysFinal "PennyBakery$State" "PennyBakery$State" "flours" "LPennyBakery$Flours;" : Cond) ∈ wAll := wg (wt_2 _ (List.mem_of_getElem? (i := 14) rfl)) rfl
theorem wm_256 : (.laysFinal "PennyBakery$State" "PennyBakery$State" "breads" "LPennyBakery$Breads;" : Cond) ∈ wAll := wg (wt_2 _ (List.mem_of_getElem? (i := 16) rfl)) rfl
theorem wm_258 : (.laysFinal "PennyBakery$State" "PennyBakery$State" "ovens" "LPennyBakery$Ovens;" : Cond) ∈ wAll := wg (wt_2 _ (List.mem_of_getElem? (i := 18) rfl)) rfl
theorem wm_260 : (.laysFinal "PennyBakery$State" "PennyBakery$State" "batches" "LPennyBakery$Batches;" : Cond) ∈ wAll := wg (wt_2 _ (List.mem_of_getElem? (i := 20) rfl)) rfl
theorem wm_262 : (.superclass "PennyBakery$State" "java/lang/Object" : Cond) ∈ wAll := wg (wt_2 _ (List.mem_of_getElem? (i := 22) rfl)) rfl
theorem wm_263 : (.classLink RX8 19 RX3 : Cond) ∈ wAll := wg (wt_2 _ (List.mem_of_getElem? (i := 23) rfl)) rfl
theorem wm_264 : (.instantiable RX3 3 : Cond) ∈ wAll := wg (wt_2 _ (List.mem_of_getElem? (i := 24) rfl)) rfl
theorem wm_265 : (.methodLink RX8 21 yX3_init : Cond) ∈ wAll := wg (wt_2 _ (List.mem_of_getElem? (i := 25) rfl)) rfl
theorem wm_266 : (.instanceMethod yX3_init : Cond) ∈ wAll := wg (wt_2 _ (List.mem_of_getElem? (i := 26) rfl)) rfl
theorem wm_267 : (.code yX3_init cX3_init 2 (Option.none : Option FieldType) : Cond) ∈ wAll := wg (wt_2 _ (List.mem_of_getElem? (i := 27) rfl)) rfl
theorem wm_268 : (.methodLink RX3 3 ⟨"java/lang/Object", "<init>", "()V"⟩ : Cond) ∈ wAll := wg (wt_2 _ (List.mem_of_getElem? (i := 28) rfl)) rfl
theorem wm_269 : (.classLink RX3 9 RX6 : Cond) ∈ wAll := wg (wt_2 _ (List.mem_of_getElem? (i := 29) rfl)) rfl
theorem wm_272 : (.fieldLink RX3 26 "PennyBakery$History" "count" "I" : Cond) ∈ wAll := wg (wt_2 _ (List.mem_of_getElem? (i := 32) rfl)) rfl
theorem wm_273 : (.fieldLink RX8 124 "PennyBakery$History" "count" "I" : Cond) ∈ wAll := wg (wt_2 _ (List.mem_of_getElem? (i := 33) rfl)) rfl
theorem wm_274 : (.fieldLink RX3 18 "PennyBakery$History" "next" "I" : Cond) ∈ wAll := wg (wt_2 _ (List.mem_of_getElem? (i := 34) rfl)) rfl
theorem wm_275 : (.fieldLink RX3 11 "PennyBakery$History" "states" "[LPennyBakery$State;" : Cond) ∈ wAll := wg (wt_2 _ (List.mem_of_getElem? (i := 35) rfl)) rfl
theorem wm_276 : (.lays "PennyBakery$History" "PennyBakery$History" "count" "I" : Cond) ∈ wAll := wg (wt_2 _ (List.mem_of_getElem? (i := 36) rfl)) rfl
theorem wm_278 : (.lays "PennyBakery$History" "PennyBakery$History" "next" "I" : Cond) ∈ wAll := wg (wt_2 _ (List.mem_of_getElem? (i := 38) rfl)) rfl
theorem wm_280 : (.laysFinal "PennyBakery$History" "PennyBakery$History" "states" "[LPennyBakery$State;" : Cond) ∈ wAll := wg (wt_2 _ (List.mem_of_getElem? (i := 40) rfl)) rfl
theorem wm_282 : (.superclass "PennyBakery$History" "java/lang/Object" : Cond) ∈ wAll := wg (wt_2 _ (List.mem_of_getElem? (i := 42) rfl)) rfl
theorem wm_283 : (.classLink RX8 34 RX4 : Cond) ∈ wAll := wg (wt_2 _ (List.mem_of_getElem? (i := 43) rfl)) rfl
theorem wm_284 : (.instantiable RX4 9 : Cond) ∈ wAll := wg (wt_2 _ (List.mem_of_getElem? (i := 44) rfl)) rfl
theorem wm_286 : (.instanceMethod yX4_init : Cond) ∈ wAll := wg (wt_2 _ (List.mem_of_getElem? (i := 46) rfl)) rfl
theorem wm_287 : (.code yX4_init cX4_init 1 (Option.none : Option FieldType) : Cond) ∈ wAll := wg (wt_2 _ (List.mem_of_getElem? (i := 47) rfl)) rfl
theorem wm_288 : (.methodLink RX4 3 ⟨"java/lang/Object", "<init>", "()V"⟩ : Cond) ∈ wAll := wg (wt_2 _ (List.mem_of_getElem? (i := 48) rfl)) rfl
theorem wm_289 : (.classLink RX4 9 RX7 : Cond) ∈ wAll := wg (wt_2 _ (List.mem_of_getElem? (i := 49) rfl)) rfl
theorem wm_290 : (.instantiable RX7 7 : Cond) ∈ wAll := wg (wt_2 _ (List.mem_of_getElem? (i := 50) rfl)) rfl
theorem wm_292 : (.instanceMethod yX7_init : Cond) ∈ wAll := wg (wt_2 _ (List.mem_of_getElem? (i := 52) rfl)) rfl
theorem wm_293 : (.code yX7_init cX7_init 1 (Option.none : Option FieldType) : Cond) ∈ wAll := wg (wt_2 _ (List.mem_of_getElem? (i := 53) rfl)) rfl
theorem wm_294 : (.methodLink RX7 3 ⟨"java/lang/Object", "<init>", "()V"⟩ : Cond) ∈ wAll := wg (wt_2 _ (List.mem_of_getElem? (i := 54) rfl)) rfl
theorem wm_295 : (.fieldLink RX7 24 "PennyBakery$Text" "length" "I" : Cond) ∈ wAll := wg (wt_2 _ (List.mem_of_getElem? (i := 55) rfl)) rfl
theorem wm_296 : (.fieldLink RX8 81 "PennyBakery$Text" "length" "I" : Cond) ∈ wAll := wg (wt_2 _ (List.mem_of_getElem? (i := 56) rfl)) rfl
theorem wm_297 : (.fieldLink RX7 31 "PennyBakery$Text" "tokens" "I" : Cond) ∈ wAll := wg (wt_2 _ (List.mem_of_getElem? (i := 57) rfl)) rfl
theorem wm_298 : (.fieldLink RX7 28 "PennyBakery$Text" "current" "I" : Cond) ∈ wAll := wg (wt_2 _ (List.mem_of_getElem? (i := 58) rfl)) rfl
theorem wm_299 : (.fieldLink RX7 9 "PennyBakery$Text" "bytes" "[I" : Cond) ∈ wAll := wg (wt_2 _ (List.mem_of_getElem? (i := 59) rfl)) rfl
theorem wm_300 : (.fieldLink RX7 15 "PennyBakery$Text" "kinds" "[I" : Cond) ∈ wAll := wg (wt_2 _ (List.mem_of_getElem? (i := 60) rfl)) rfl
theorem wm_301 : (.fieldLink RX7 18 "PennyBakery$Text" "starts" "[I" : Cond) ∈ wAll := wg (wt_2 _ (List.mem_of_getElem? (i := 61) rfl)) rfl
theorem wm_302 : (.fieldLink RX7 21 "PennyBakery$Text" "numbers" "[I" : Cond) ∈ wAll := wg (wt_2 _ (List.mem_of_getElem? (i := 62) rfl)) rfl
theorem wm_303 : (.lays "PennyBakery$Text" "PennyBakery$Text" "length" "I" : Cond) ∈ wAll := wg (wt_2 _ (List.mem_of_getElem? (i := 63) rfl)) rfl
theorem wm_305 : (.lays "PennyBakery$Text" "PennyBakery$Text" "tokens" "I" : Cond) ∈ wAll := wg (wt_2 _ (List.mem_of_getElem? (i := 65) rfl)) rfl
theorem wm_307 : (.lays "PennyBakery$Text" "PennyBakery$Text" "current" "I" : Cond) ∈ wAll := wg (wt_2 _ (List.mem_of_getElem? (i := 67) rfl)) rfl
theorem wm_309 : (.laysFinal "PennyBakery$Text" "PennyBakery$Text" "bytes" "[I" : Cond) ∈ wAll := wg (wt_2 _ (List.mem_of_getElem? (i := 69) rfl)) rfl
theorem wm_311 : (.laysFinal "PennyBakery$Text" "PennyBakery$Text" "kinds" "[I" : Cond) ∈ wAll := wg (wt_2 _ (List.mem_of_getElem? (i := 71) rfl)) rfl
theorem wm_313 : (.laysFinal "PennyBakery$Text" "PennyBakery$Text" "starts" "[I" : Cond) ∈ wAll := wg (wt_2 _ (List.mem_of_getElem? (i := 73) rfl)) rfl
theorem wm_315 : (.laysFinal "PennyBakery$Text" "PennyBakery$Text" "numbers" "[I" : Cond) ∈ wAll := wg (wt_2 _ (List.mem_of_getElem? (i := 75) rfl)) rfl
theorem wm_317 : (.superclass "PennyBakery$Text" "java/lang/Object" : Cond) ∈ wAll := wg (wt_2 _ (List.mem_of_getElem? (i := 77) rfl)) rfl
theorem wm_318 : (.arrayClass FieldType.boolean : Cond) ∈ wAll := wg (wt_2 _ (List.mem_of_getElem? (i := 78) rfl)) rfl
theorem wm_319 : (.fieldLink RX4 12 "PennyBakery$Interpreter" "text" "LPennyBakery$Text;" : Cond) ∈ wAll := wg (wt_2 _ (List.mem_of_getElem? (i := 79) rfl)) rfl
theorem wm_320 : (.fieldLink RX8 56 "PennyBakery$Interpreter" "text" "LPennyBakery$Text;" : Cond) ∈ wAll := wg (wt_2 _ (List.mem_of_getElem? (i := 80) rfl)) rfl
theorem wm_321 : (.fieldLink RX4 33 "PennyBakery$Interpreter" "error" "I" : Cond) ∈ wAll := wg (wt_2 _ (List.mem_of_getElem? (i := 81) rfl)) rfl
theorem wm_322 : (.fieldLink RX8 112 "PennyBakery$Interpreter" "error" "I" : Cond) ∈ wAll := wg (wt_2 _ (List.mem_of_getElem? (i := 82) rfl)) rfl
theorem wm_323 : (.fieldLink RX4 18 "PennyBakery$Interpreter" "errorAt" "I" : Cond) ∈ wAll := wg (wt_2 _ (List.mem_of_getElem? (i := 83) rfl)) rfl
theorem wm_324 : (.fieldLink RX8 115 "PennyBakery$Interpreter" "errorAt" "I" : Cond) ∈ wAll := wg (wt_2 _ (List.mem_of_getElem? (i := 84) rfl)) rfl
theorem wm_325 : (.fieldLink RX4 36 "PennyBakery$Interpreter" "commands" "I" : Cond) ∈ wAll := wg (wt_2 _ (List.mem_of_getElem? (i := 85) rfl)) rfl
theorem wm_326 : (.fieldLink RX8 109 "PennyBakery$Interpreter" "commands" "I" : Cond) ∈ wAll := wg (wt_2 _ (List.mem_of_getElem? (i := 86) rfl)) rfl
theorem wm_327 : (.fieldLink RX4 26 "PennyBakery$Interpreter" "target" "LPennyBakery$State;" : Cond) ∈ wAll := wg (wt_2 _ (List.mem_of_getElem? (i := 87) rfl)) rfl
theorem wm_328 : (.fieldLink RX4 105 "PennyBakery$Interpreter" "burnt" "I" : Cond) ∈ wAll := wg (wt_2 _ (List.mem_of_getElem? (i := 88) rfl)) rfl
theorem wm_329 : (.fieldLink RX4 108 "PennyBakery$Interpreter" "extra" "I" : Cond) ∈ wAll := wg (wt_2 _ (List.mem_of_getElem? (i := 89) rfl)) rfl
theorem wm_330 : (.fieldLink RX4 111 "PennyBakery$Interpreter" "late" "I" : Cond) ∈ wAll := wg (wt_2 _ (List.mem_of_getElem? (i := 90) rfl)) rfl
theorem wm_331 : (.fieldLink RX4 22 "PennyBakery$Interpreter" "given" "[I" : Cond) ∈ wAll := wg (wt_2 _ (List.mem_of_getElem? (i := 91) rfl)) rfl
theorem wm_332 : (.laysFinal "PennyBakery$Interpreter" "PennyBakery$Interpreter" "text" "LPennyBakery$Text;" : Cond) ∈ wAll := wg (wt_2 _ (List.mem_of_getElem? (i := 92) rfl)) rfl
theorem wm_334 : (.lays "PennyBakery$Interpreter" "PennyBakery$Interpreter" "error" "I" : Cond) ∈ wAll := wg (wt_2 _ (List.mem_of_getElem? (i := 94) rfl)) rfl
theorem wm_336 : (.lays "PennyBakery$Interpreter" "PennyBakery$Interpreter" "errorAt" "I" : Cond) ∈ wAll := wg (wt_2 _ (List.mem_of_getElem? (i := 96) rfl)) rfl
theorem wm_338 : (.lays "PennyBakery$Interpreter" "PennyBakery$Interpreter" "commands" "I" : Cond) ∈ wAll := wg (wt_2 _ (List.mem_of_getElem? (i := 98) rfl)) rfl
theorem wm_340 : (.lays "PennyBakery$Interpreter" "PennyBakery$Interpreter" "target" "LPennyBakery$State;" : Cond) ∈ wAll := wg (wt_2 _ (List.mem_of_getElem? (i := 100) rfl)) rfl
theorem wm_342 : (.lays "PennyBakery$Interpreter" "PennyBakery$Interpreter" "burnt" "I" : Cond) ∈ wAll := wg (wt_2 _ (List.mem_of_getElem? (i := 102) rfl)) rfl
theorem wm_344 : (.lays "PennyBakery$Interpreter" "PennyBakery$Interpreter" "extra" "I" : Cond) ∈ wAll := wg (wt_2 _ (List.mem_of_getElem? (i := 104) rfl)) rfl
theorem wm_346 : (.lays "PennyBakery$Interpreter" "PennyBakery$Interpreter" "late" "I" : Cond) ∈ wAll := wg (wt_2 _ (List.mem_of_getElem? (i := 106) rfl)) rfl
theorem wm_348 : (.laysFinal "PennyBakery$Interpreter" "PennyBakery$Interpreter" "given" "[I" : Cond) ∈ wAll := wg (wt_2 _ (List.mem_of_getElem? (i := 108) rfl)) rfl
theorem wm_350 : (.superclass "PennyBakery$Interpreter" "java/lang/Object" : Cond) ∈ wAll := wg (wt_2 _ (List.mem_of_getElem? (i := 110) rfl)) rfl
theorem wm_351 : (.classLink RX8 41 RJ4 : Cond) ∈ wAll := wg (wt_2 _ (List.mem_of_getElem? (i := 111) rfl)) rfl
theorem wm_352 : (.instantiable RJ4 4 : Cond) ∈ wAll := wg (wt_2 _ (List.mem_of_getElem? (i := 112) rfl)) rfl
theorem wm_353 : (.methodLink RX8 43 yJ4_init_da8c8 : Cond) ∈ wAll := wg (wt_2 _ (List.mem_of_getElem? (i := 113) rfl)) rfl
theorem wm_354 : (.instanceMethod yJ4_init_da8c8 : Cond) ∈ wAll := wg (wt_2 _ (List.mem_of_getElem? (i := 114) rfl)) rfl
theorem wm_355 : (.code yJ4_init_da8c8 cJ4_init_da8c8 1 (Option.none : Option FieldType) : Cond) ∈ wAll := wg (wt_2 _ (List.mem_of_getElem? (i := 115) rfl)) rfl
theorem wm_356 : (.methodLink RJ4 1 yJ5_init_d00df : Cond) ∈ wAll := wg (wt_2 _ (List.mem_of_getElem? (i := 116) rfl)) rfl
theorem wm_357 : (.instanceMethod yJ5_init_d00df : Cond) ∈ wAll := wg (wt_2 _ (List.mem_of_getElem? (i := 117) rfl)) rfl
theorem wm_358 : (.code yJ5_init_d00df cJ5_init_d00df 2 (Option.none : Option FieldType) : Cond) ∈ wAll := wg (wt_2 _ (List.mem_of_getElem? (i := 118) rfl)) rfl
theorem wm_359 : (.methodLink RJ5 3 ⟨"java/lang/Object", "<init>", "()V"⟩ : Cond) ∈ wAll := wg (wt_2 _ (List.mem_of_getElem? (i := 119) rfl)) rfl
theorem wm_360 : (.fieldLink RJ5 18 "java/lang/String" "COMPACT_STRINGS" "Z" : Cond) ∈ wAll := wg (wt_2 _ (List.mem_of_getElem? (i := 120) rfl)) rfl
theorem wm_362 : (.methodLink RJ5 26 yJ2_newBytesFor_77867 : Cond) ∈ wAll := wg (wt_2 _ (List.mem_of_getElem? (i := 122) rfl)) rfl
theorem wm_363 : (.static yJ2_newBytesFor_77867 : Cond) ∈ wAll := wg (wt_2 _ (List.mem_of_getElem? (i := 123) rfl)) rfl
theorem wm_364 : (.code yJ2_newBytesFor_77867 cJ2_newBytesFor_77867 1 (Option.some (FieldType.array FieldType.byte)) : Cond) ∈ wAll := wg (wt_2 _ (List.mem_of_getElem? (i := 124) rfl)) rfl
theorem wm_365 : (.methodLink RJ2 11 yJ2_newBytesLength_0f7a4 : Cond) ∈ wAll := wg (wt_2 _ (List.mem_of_getElem? (i := 125) rfl)) rfl
theorem wm_366 : (.static yJ2_newBytesLength_0f7a4 : Cond) ∈ wAll := wg (wt_2 _ (List.mem_of_getElem? (i := 126) rfl)) rfl
theorem wm_367 : (.code yJ2_newBytesLength_0f7a4 cJ2_newBytesLength_0f7a4 1 (Option.some FieldType.int) : Cond) ∈ wAll := wg (wt_2 _ (List.mem_of_getElem? (i := 127) rfl)) rfl
theorem wm_368 : (.constant RJ2 20 (1073741823) : Cond) ∈ wAll := wg (wt_2 _ (List.mem_of_getElem? (i := 128) rfl)) rfl
theorem wm_369 : (.fieldLink RJ5 15 "java/lang/AbstractStringBuilder" "value" "[B" : Cond) ∈ wAll := wg (wt_2 _ (List.mem_of_getElem? (i := 129) rfl)) rfl
theorem wm_370 : (.fieldLink RJ5 22 "java/lang/AbstractStringBuilder" "coder" "B" : Cond) ∈ wAll := wg (wt_2 _ (List.mem_of_getElem? (i := 130) rfl)) rfl
theorem wm_371 : (.fieldLink RJ5 73 "java/lang/AbstractStringBuilder" "maybeLatin1" "Z" : Cond) ∈ wAll := wg (wt_2 _ (List.mem_of_getElem? (i := 131) rfl)) rfl
theorem wm_372 : (.fieldLink RJ0 1048 "java/lang/AbstractStringBuilder" "maybeLatin1" "Z" : Cond) ∈ wAll := wg (wt_2 _ (List.mem_of_getElem? (i := 132) rfl)) rfl
theorem wm_373 : (.fieldLink RJ5 79 "java/lang/AbstractStringBuilder" "count" "I" : Cond) ∈ wAll := wg (wt_2 _ (List.mem_of_getElem? (i := 133) rfl)) rfl
theorem wm_374 : (.lays "java/lang/StringBuilder" "java/lang/AbstractStringBuilder" "value" "[B" : Cond) ∈ wAll := wg (wt_2 _ (List.mem_of_getElem? (i := 134) rfl)) rfl
theorem wm_376 : (.lays "java/lang/StringBuilder" "java/lang/AbstractStringBuilder" "coder" "B" : Cond) ∈ wAll := wg (wt_2 _ (List.mem_of_getElem? (i := 136) rfl)) rfl
theorem wm_378 : (.lays "java/lang/StringBuilder" "java/lang/AbstractStringBuilder" "maybeLatin1" "Z" : Cond) ∈ wAll := wg (wt_2 _ (List.mem_of_getElem? (i := 138) rfl)) rfl
theorem wm_380 : (.lays "java/lang/StringBuilder" "java/lang/AbstractStringBuilder" "count" "I" : Cond) ∈ wAll := wg (wt_2 _ (List.mem_of_getElem? (i := 140) rfl)) rfl
theorem wm_382 : (.superclass "java/lang/StringBuilder" "java/lang/AbstractStringBuilder" : Cond) ∈ wAll := wg (wt_2 _ (List.mem_of_getElem? (i := 142) rfl)) rfl
theorem wm_383 : (.arrayClass FieldType.byte : Cond) ∈ wAll := wg (wt_2 _ (List.mem_of_getElem? (i := 143) rfl)) rfl
theorem wm_385 : (.methodLink RX8 50 yJ0_length_8abf5 : Cond) ∈ wAll := wg (wt_2 _ (List.mem_of_getElem? (i := 145) rfl)) rfl
theorem wm_386 : (.instanceMethod yJ0_length_8abf5 : Cond) ∈ wAll := wg (wt_2 _ (List.mem_of_getElem? (i := 146) rfl)) rfl
theorem wm_387 : (.selects RJ0 yJ0_length_8abf5 yJ0_length_8abf5 : Cond) ∈ wAll := wg (wt_2 _ (List.mem_of_getElem? (i := 147) rfl)) rfl
theorem wm_388 : (.code yJ0_length_8abf5 cJ0_length_8abf5 1 (Option.some FieldType.int) : Cond) ∈ wAll := wg (wt_2 _ (List.mem_of_getElem? (i := 148) rfl)) rfl
theorem wm_389 : (.methodLink RJ0 335 yJ0_coder_7d493 : Cond) ∈ wAll := wg (wt_2 _ (List.mem_of_getElem? (i := 149) rfl)) rfl
theorem wm_390 : (.instanceMethod yJ0_coder_7d493 : Cond) ∈ wAll := wg (wt_2 _ (List.mem_of_getElem? (i := 150) rfl)) rfl
theorem wm_391 : (.selects RJ0 yJ0_coder_7d493 yJ0_coder_7d493 : Cond) ∈ wAll := wg (wt_2 _ (List.mem_of_getElem? (i := 151) rfl)) rfl
theorem wm_392 : (.code yJ0_coder_7d493 cJ0_coder_7d493 1 (Option.some FieldType.byte) : Cond) ∈ wAll := wg (wt_2 _ (List.mem_of_getElem? (i := 152) rfl)) rfl
theorem wm_393 : (.fieldLink RJ0 38 "java/lang/String" "COMPACT_STRINGS" "Z" : Cond) ∈ wAll := wg (wt_2 _ (List.mem_of_getElem? (i := 153) rfl)) rfl
theorem wm_394 : (.methodLink RX8 60 yJ0_charAt_5068e : Cond) ∈ wAll := wg (wt_2 _ (List.mem_of_getElem? (i := 154) rfl)) rfl
theorem wm_395 : (.instanceMethod yJ0_charAt_5068e : Cond) ∈ wAll := wg (wt_2 _ (List.mem_of_getElem? (i := 155) rfl)) rfl
theorem wm_396 : (.selects RJ0 yJ0_charAt_5068e yJ0_charAt_5068e : Cond) ∈ wAll := wg (wt_2 _ (List.mem_of_getElem? (i := 156) rfl)) rfl
theorem wm_397 : (.code yJ0_charAt_5068e cJ0_charAt_5068e 2 (Option.some FieldType.char) : Cond) ∈ wAll := wg (wt_2 _ (List.mem_of_getElem? (i := 157) rfl)) rfl
theorem wm_398 : (.methodLink RJ0 492 yJ0_isLatin1_aae02 : Cond) ∈ wAll := wg (wt_2 _ (List.mem_of_getElem? (i := 158) rfl)) rfl
theorem wm_399 : (.instanceMethod yJ0_isLatin1_aae02 : Cond) ∈ wAll := wg (wt_2 _ (List.mem_of_getElem? (i := 159) rfl)) rfl
theorem wm_400 : (.selects RJ0 yJ0_isLatin1_aae02 yJ0_isLatin1_aae02 : Cond) ∈ wAll := wg (wt_2 _ (List.mem_of_getElem? (i := 160) rfl)) rfl
theorem wm_401 : (.code yJ0_isLatin1_aae02 cJ0_isLatin1_aae02 1 (Option.some FieldType.boolean) : Cond) ∈ wAll := wg (wt_2 _ (List.mem_of_getElem? (i := 161) rfl)) rfl
theorem wm_402 : (.methodLink RJ0 495 yJ1_charAt_3b067 : Cond) ∈ wAll := wg (wt_2 _ (List.mem_of_getElem? (i := 162) rfl)) rfl
theorem wm_403 : (.static yJ1_charAt_3b067 : Cond) ∈ wAll := wg (wt_2 _ (List.mem_of_getElem? (i := 163) rfl)) rfl
theorem wm_404 : (.code yJ1_charAt_3b067 cJ1_charAt_3b067 2 (Option.some FieldType.char) : Cond) ∈ wAll := wg (wt_2 _ (List.mem_of_getElem? (i := 164) rfl)) rfl
theorem wm_405 : (.methodLink RJ1 9 yJ0_checkIndex_df160 : Cond) ∈ wAll := wg (wt_2 _ (List.mem_of_getElem? (i := 165) rfl)) rfl
theorem wm_406 : (.static yJ0_checkIndex_df160 : Cond) ∈ wAll := wg (wt_2 _ (List.mem_of_getElem? (i := 166) rfl)) rfl
theorem wm_407 : (.code yJ0_checkIndex_df160 cJ0_checkIndex_df160 2 (Option.none : Option FieldType) : Cond) ∈ wAll := wg (wt_2 _ (List.mem_of_getElem? (i := 167) rfl)) rfl
theorem wm_408 : (.fieldLink RJ0 1053 "jdk/internal/util/Preconditions" "SIOOBE_FORMATTER" "Ljava/util/function/BiFunction;" : Cond) ∈ wAll := wg (wt_2 _ (List.mem_of_getElem? (i := 168) rfl)) rfl
theorem wm_410 : (.methodLink RJ0 1059 yJ3_checkIndex_8e157 : Cond) ∈ wAll := wg (wt_2 _ (List.mem_of_getElem? (i := 170) rfl)) rfl
theorem wm_411 : (.static yJ3_checkIndex_8e157 : Cond) ∈ wAll := wg (wt_2 _ (List.mem_of_getElem? (i := 171) rfl)) rfl
theorem wm_412 : (.code yJ3_checkIndex_8e157 cJ3_checkIndex_8e157 3 (Option.some FieldType.int) : Cond) ∈ wAll := wg (wt_2 _ (List.mem_of_getElem? (i := 172) rfl)) rfl
theorem wm_413 : (.methodLink RJ0 498 yJ2_charAt_3b067 : Cond) ∈ wAll := wg (wt_2 _ (List.mem_of_getElem? (i := 173) rfl)) rfl
theorem wm_414 : (.static yJ2_charAt_3b067 : Cond) ∈ wAll := wg (wt_2 _ (List.mem_of_getElem? (i := 174) rfl)) rfl
theorem wm_415 : (.code yJ2_charAt_3b067 cJ2_charAt_3b067 2 (Option.some FieldType.char) : Cond) ∈ wAll := wg (wt_2 _ (List.mem_of_getElem? (i := 175) rfl)) rfl
theorem wm_416 : (.methodLink RJ2 67 yJ2_checkIndex_2214a : Cond) ∈ wAll := wg (wt_2 _ (List.mem_of_getElem? (i := 176) rfl)) rfl
theorem wm_417 : (.static yJ2_checkIndex_2214a : Cond) ∈ wAll := wg (wt_2 _ (List.mem_of_getElem? (i := 177) rfl)) rfl
theorem wm_418 : (.code yJ2_checkIndex_2214a cJ2_checkIndex_2214a 2 (Option.none : Option FieldType) : Cond) ∈ wAll := wg (wt_2 _ (List.mem_of_getElem? (i := 178) rfl)) rfl
theorem wm_419 : (.methodLink RJ2 48 yJ2_length_9d52b : Cond) ∈ wAll := wg (wt_2 _ (List.mem_of_getElem? (i := 179) rfl)) rfl
theorem wm_420 : (.static yJ2_length_9d52b : Cond) ∈ wAll := wg (wt_2 _ (List.mem_of_getElem? (i := 180) rfl)) rfl
theorem wm_421 : (.code yJ2_length_9d52b cJ2_length_9d52b 1 (Option.some FieldType.int) : Cond) ∈ wAll := wg (wt_2 _ (List.mem_of_getElem? (i := 181) rfl)) rfl
theorem wm_422 : (.methodLink RJ2 414 yJ0_checkIndex_df160 : Cond) ∈ wAll := wg (wt_2 _ (List.mem_of_getElem? (i := 182) rfl)) rfl
theorem wm_423 : (.methodLink RJ2 71 yJ2_getChar_3b067 : Cond) ∈ wAll := wg (wt_2 _ (List.mem_of_getElem? (i := 183) rfl)) rfl
theorem wm_424 : (.static yJ2_getChar_3b067 : Cond) ∈ wAll := wg (wt_2 _ (List.mem_of_getElem? (i := 184) rfl)) rfl
theorem wm_425 : (.code yJ2_getChar_3b067 cJ2_getChar_3b067 2 (Option.some FieldType.char) : Cond) ∈ wAll := wg (wt_2 _ (List.mem_of_getElem? (i := 185) rfl)) rfl
theorem wm_426 : (.fieldLink RJ2 44 "java/lang/StringUTF16" "$assertionsDisabled" "Z" : Cond) ∈ wAll := wg (wt_2 _ (List.mem_of_getElem? (i := 186) rfl)) rfl
theorem wm_428 : (.fieldLink RJ2 59 "java/lang/StringUTF16" "HI_BYTE_SHIFT" "I" : Cond) ∈ wAll := wg (wt_2 _ (List.mem_of_getElem? (i := 188) rfl)) rfl
theorem wm_430 : (.fieldLink RJ2 63 "java/lang/StringUTF16" "LO_BYTE_SHIFT" "I" : Cond) ∈ wAll := wg (wt_2 _ (List.mem_of_getElem? (i := 190) rfl)) rfl
theorem wm_432 : (.methodLink RX8 64 yX7_append : Cond) ∈ wAll := wg (wt_2 _ (List.mem_of_getElem? (i := 192) rfl)) rfl
theorem wm_433 : (.instanceMethod yX7_append : Cond) ∈ wAll := wg (wt_2 _ (List.mem_of_getElem? (i := 193) rfl)) rfl
theorem wm_434 : (.selects RX7 yX7_append yX7_append : Cond) ∈ wAll := wg (wt_2 _ (List.mem_of_getElem? (i := 194) rfl)) rfl
theorem wm_435 : (.code yX7_append cX7_append 2 (Option.none : Option FieldType) : Cond) ∈ wAll := wg (wt_2 _ (List.mem_of_getElem? (i := 195) rfl)) rfl
theorem wm_436 : (.methodLink RX8 70 yX4_read : Cond) ∈ wAll := wg (wt_2 _ (List.mem_of_getElem? (i := 196) rfl)) rfl
theorem wm_437 : (.instanceMethod yX4_read : Cond) ∈ wAll := wg (wt_2 _ (List.mem_of_getElem? (i := 197) rfl)) rfl
theorem wm_438 : (.selects RX4 yX4_read yX4_read : Cond) ∈ wAll := wg (wt_2 _ (List.mem_of_getElem? (i := 198) rfl)) rfl
theorem wm_439 : (.code yX4_read cX4_read 5 (Option.some FieldType.boolean) : Cond) ∈ wAll := wg (wt_2 _ (List.mem_of_getElem? (i := 199) rfl)) rfl
theorem wm_440 : (.methodLink RX4 30 yX7_split : Cond) ∈ wAll := wg (wt_2 _ (List.mem_of_getElem? (i := 200) rfl)) rfl
theorem wm_441 : (.instanceMethod yX7_split : Cond) ∈ wAll := wg (wt_2 _ (List.mem_of_getElem? (i := 201) rfl)) rfl
theorem wm_442 : (.selects RX7 yX7_split yX7_split : Cond) ∈ wAll := wg (wt_2 _ (List.mem_of_getElem? (i := 202) rfl)) rfl
theorem wm_443 : (.code yX7_split cX7_split 3 (Option.none : Option FieldType) : Cond) ∈ wAll := wg (wt_2 _ (List.mem_of_getElem? (i := 203) rfl)) rfl
theorem wm_444 : (.methodLink RX7 34 yX7_isBlank : Cond) ∈ wAll := wg (wt_2 _ (List.mem_of_getElem? (i := 204) rfl)) rfl
theorem wm_445 : (.static yX7_isBlank : Cond) ∈ wAll := wg (wt_2 _ (List.mem_of_getElem? (i := 205) rfl)) rfl
theorem wm_446 : (.code yX7_isBlank cX7_isBlank 1 (Option.some FieldType.boolean) : Cond) ∈ wAll := wg (wt_2 _ (List.mem_of_getElem? (i := 206) rfl)) rfl
theorem wm_447 : (.methodLink RX7 38 yX7_readToken : Cond) ∈ wAll := wg (wt_2 _ (List.mem_of_getElem? (i := 207) rfl)) rfl
theorem wm_449 : (.instanceMethod yX7_readToken : Cond) ∈ wAll := wg (wt_2 _ (List.mem_of_getElem? (i := 209) rfl)) rfl
theorem wm_450 : (.code yX7_readToken cX7_readToken 4 (Option.some FieldType.int) : Cond) ∈ wAll := wg (wt_2 _ (List.mem_of_getElem? (i := 210) rfl)) rfl
theorem wm_451 : (.methodLink RX7 42 yX7_isLetter : Cond) ∈ wAll := wg (wt_2 _ (List.mem_of_getElem? (i := 211) rfl)) rfl
theorem wm_452 : (.static yX7_isLetter : Cond) ∈ wAll := wg (wt_2 _ (List.mem_of_getElem? (i := 212) rfl)) rfl
theorem wm_453 : (.code yX7_isLetter cX7_isLetter 1 (Option.some FieldType.boolean) : Cond) ∈ wAll := wg (wt_2 _ (List.mem_of_getElem? (i := 213) rfl)) rfl
theorem wm_454 : (.methodLink RX7 45 yX7_wordKind : Cond) ∈ wAll := wg (wt_2 _ (List.mem_of_getElem? (i := 214) rfl)) rfl
theorem wm_456 : (.instanceMethod yX7_wordKind : Cond) ∈ wAll := wg (wt_2 _ (List.mem_of_getElem? (i := 216) rfl)) rfl
theorem wm_457 : (.code yX7_wordKind cX7_wordKind 4 (Option.some FieldType.int) : Cond) ∈ wAll := wg (wt_2 _ (List.mem_of_getElem? (i := 217) rfl)) rfl
theorem wm_458 : (.methodLink RX7 61 yX7_wordOf : Cond) ∈ wAll := wg (wt_2 _ (List.mem_of_getElem? (i := 218) rfl)) rfl
theorem wm_459 : (.static yX7_wordOf : Cond) ∈ wAll := wg (wt_2 _ (List.mem_of_getElem? (i := 219) rfl)) rfl
theorem wm_460 : (.code yX7_wordOf cX7_wordOf 1 (Option.some (FieldType.object "java/lang/String")) : Cond) ∈ wAll := wg (wt_2 _ (List.mem_of_getElem? (i := 220) rfl)) rfl
theorem wm_475 : (.methodLink RX7 65 yX7_isWord : Cond) ∈ wAll := wg (wt_2 _ (List.mem_of_getElem? (i := 235) rfl)) rfl
theorem wm_477 : (.instanceMethod yX7_isWord : Cond) ∈ wAll := wg (wt_2 _ (List.mem_of_getElem? (i := 237) rfl)) rfl
theorem wm_478 : (.code yX7_isWord cX7_isWord 6 (Option.some FieldType.boolean) : Cond) ∈ wAll := wg (wt_2 _ (List.mem_of_getElem? (i := 238) rfl)) rfl
theorem wm_479 : (.methodLink RX7 69 yJ0_length_8abf5 : Cond) ∈ wAll := wg (wt_2 _ (List.mem_of_getElem? (i := 239) rfl)) rfl
theorem wm_480 : (.methodLink RX7 74 yJ0_charAt_5068e : Cond) ∈ wAll := wg (wt_3 _ (List.mem_of_getElem? (i := 0) rfl)) rfl
theorem wm_481 : (.methodLink RX7 49 yX7_isDigit : Cond) ∈ wAll := wg (wt_3 _ (List.mem_of_getElem? (i := 1) rfl)) rfl
theorem wm_482 : (.static yX7_isDigit : Cond) ∈ wAll := wg (wt_3 _ (List.mem_of_getElem? (i := 2) rfl)) rfl
theorem wm_483 : (.code yX7_isDigit cX7_isDigit 1 (Option.some FieldType.boolean) : Cond) ∈ wAll := wg (wt_3 _ (List.mem_of_getElem? (i := 3) rfl)) rfl
theorem wm_484 : (.methodLink RX7 52 yX7_numberOf : Cond) ∈ wAll := wg (wt_3 _ (List.mem_of_getElem? (i := 4) rfl)) rfl
theorem wm_486 : (.instanceMethod yX7_numberOf : Cond) ∈ wAll := wg (wt_3 _ (List.mem_of_getElem? (i := 6) rfl)) rfl
theorem wm_487 : (.code yX7_numberOf cX7_numberOf 5 (Option.some FieldType.int) : Cond) ∈ wAll := wg (wt_3 _ (List.mem_of_getElem? (i := 7) rfl)) rfl
theorem wm_488 : (.constant RX7 55 (1000000) : Cond) ∈ wAll := wg (wt_3 _ (List.mem_of_getElem? (i := 8) rfl)) rfl
theorem wm_489 : (.methodLink RX7 56 yJ9_min_7cf53 : Cond) ∈ wAll := wg (wt_3 _ (List.mem_of_getElem? (i := 9) rfl)) rfl
theorem wm_490 : (.static yJ9_min_7cf53 : Cond) ∈ wAll := wg (wt_3 _ (List.mem_of_getElem? (i := 10) rfl)) rfl
theorem wm_491 : (.code yJ9_min_7cf53 cJ9_min_7cf53 2 (Option.some FieldType.int) : Cond) ∈ wAll := wg (wt_3 _ (List.mem_of_getElem? (i := 11) rfl)) rfl
theorem wm_492 : (.methodLink RX4 39 yX4_readHead : Cond) ∈ wAll := wg (wt_3 _ (List.mem_of_getElem? (i := 12) rfl)) rfl
theorem wm_494 : (.instanceMethod yX4_readHead : Cond) ∈ wAll := wg (wt_3 _ (List.mem_of_getElem? (i := 14) rfl)) rfl
theorem wm_495 : (.code yX4_readHead cX4_readHead 1 (Option.some FieldType.boolean) : Cond) ∈ wAll := wg (wt_3 _ (List.mem_of_getElem? (i := 15) rfl)) rfl
theorem wm_496 : (.methodLink RX4 43 yX7_kind : Cond) ∈ wAll := wg (wt_3 _ (List.mem_of_getElem? (i := 16) rfl)) rfl
theorem wm_497 : (.instanceMethod yX7_kind : Cond) ∈ wAll := wg (wt_3 _ (List.mem_of_getElem? (i := 17) rfl)) rfl
theorem wm_498 : (.selects RX7 yX7_kind yX7_kind : Cond) ∈ wAll := wg (wt_3 _ (List.mem_of_getElem? (i := 18) rfl)) rfl
theorem wm_499 : (.code yX7_kind cX7_kind 1 (Option.some FieldType.int) : Cond) ∈ wAll := wg (wt_3 _ (List.mem_of_getElem? (i := 19) rfl)) rfl
theorem wm_500 : (.methodLink RX4 53 yX4_fail : Cond) ∈ wAll := wg (wt_3 _ (List.mem_of_getElem? (i := 20) rfl)) rfl
theorem wm_502 : (.instanceMethod yX4_fail : Cond) ∈ wAll := wg (wt_3 _ (List.mem_of_getElem? (i := 22) rfl)) rfl
theorem wm_503 : (.code yX4_fail cX4_fail 2 (Option.some FieldType.boolean) : Cond) ∈ wAll := wg (wt_3 _ (List.mem_of_getElem? (i := 23) rfl)) rfl
theorem wm_504 : (.methodLink RX4 50 yX7_start : Cond) ∈ wAll := wg (wt_3 _ (List.mem_of_getElem? (i := 24) rfl)) rfl
theorem wm_505 : (.instanceMethod yX7_start : Cond) ∈ wAll := wg (wt_3 _ (List.mem_of_getElem? (i := 25) rfl)) rfl
theorem wm_506 : (.selects RX7 yX7_start yX7_start : Cond) ∈ wAll := wg (wt_3 _ (List.mem_of_getElem? (i := 26) rfl)) rfl
theorem wm_507 : (.code yX7_start cX7_start 1 (Option.some FieldType.int) : Cond) ∈ wAll := wg (wt_3 _ (List.mem_of_getElem? (i := 27) rfl)) rfl
theorem wm_508 : (.methodLink RX4 57 yX7_advance : Cond) ∈ wAll := wg (wt_3 _ (List.mem_of_getElem? (i := 28) rfl)) rfl
theorem wm_509 : (.instanceMethod yX7_advance : Cond) ∈ wAll := wg (wt_3 _ (List.mem_of_getElem? (i := 29) rfl)) rfl
theorem wm_510 : (.selects RX7 yX7_advance yX7_advance : Cond) ∈ wAll := wg (wt_3 _ (List.mem_of_getElem? (i := 30) rfl)) rfl
theorem wm_511 : (.code yX7_advance cX7_advance 1 (Option.none : Option FieldType) : Cond) ∈ wAll := wg (wt_3 _ (List.mem_of_getElem? (i := 31) rfl)) rfl
theorem wm_512 : (.constant RX4 60 (99999) : Cond) ∈ wAll := wg (wt_3 _ (List.mem_of_getElem? (i := 32) rfl)) rfl
theorem wm_513 : (.methodLink RX4 61 yX4_readNumber : Cond) ∈ wAll := wg (wt_3 _ (List.mem_of_getElem? (i := 33) rfl)) rfl
theorem wm_515 : (.instanceMethod yX4_readNumber : Cond) ∈ wAll := wg (wt_3 _ (List.mem_of_getElem? (i := 35) rfl)) rfl
theorem wm_516 : (.code yX4_readNumber cX4_readNumber 4 (Option.some FieldType.boolean) : Cond) ∈ wAll := wg (wt_3 _ (List.mem_of_getElem? (i := 36) rfl)) rfl
theorem wm_517 : (.methodLink RX4 102 yX7_number : Cond) ∈ wAll := wg (wt_3 _ (List.mem_of_getElem? (i := 37) rfl)) rfl
theorem wm_518 : (.instanceMethod yX7_number : Cond) ∈ wAll := wg (wt_3 _ (List.mem_of_getElem? (i := 38) rfl)) rfl
theorem wm_519 : (.selects RX7 yX7_number yX7_number : Cond) ∈ wAll := wg (wt_3 _ (List.mem_of_getElem? (i := 39) rfl)) rfl
theorem wm_520 : (.code yX7_number cX7_number 1 (Option.some FieldType.int) : Cond) ∈ wAll := wg (wt_3 _ (List.mem_of_getElem? (i := 40) rfl)) rfl
theorem wm_521 : (.methodLink RX4 65 yX6_open : Cond) ∈ wAll := wg (wt_3 _ (List.mem_of_getElem? (i := 41) rfl)) rfl
theorem wm_522 : (.instanceMethod yX6_open : Cond) ∈ wAll := wg (wt_3 _ (List.mem_of_getElem? (i := 42) rfl)) rfl
theorem wm_523 : (.selects RX6 yX6_open yX6_open : Cond) ∈ wAll := wg (wt_3 _ (List.mem_of_getElem? (i := 43) rfl)) rfl
theorem wm_524 : (.code yX6_open cX6_open 4 (Option.none : Option FieldType) : Cond) ∈ wAll := wg (wt_3 _ (List.mem_of_getElem? (i := 44) rfl)) rfl
theorem wm_525 : (.methodLink RX6 76 yX5_open : Cond) ∈ wAll := wg (wt_3 _ (List.mem_of_getElem? (i := 45) rfl)) rfl
theorem wm_526 : (.instanceMethod yX5_open : Cond) ∈ wAll := wg (wt_3 _ (List.mem_of_getElem? (i := 46) rfl)) rfl
theorem wm_527 : (.selects RX5 yX5_open yX5_open : Cond) ∈ wAll := wg (wt_3 _ (List.mem_of_getElem? (i := 47) rfl)) rfl
theorem wm_528 : (.code yX5_open cX5_open 4 (Option.none : Option FieldType) : Cond) ∈ wAll := wg (wt_3 _ (List.mem_of_getElem? (i := 48) rfl)) rfl
theorem wm_529 : (.methodLink RX4 47 yX4_readCommand : Cond) ∈ wAll := wg (wt_3 _ (List.mem_of_getElem? (i := 49) rfl)) rfl
theorem wm_531 : (.instanceMethod yX4_readCommand : Cond) ∈ wAll := wg (wt_3 _ (List.mem_of_getElem? (i := 51) rfl)) rfl
theorem wm_532 : (.code yX4_readCommand cX4_readCommand 2 (Option.some FieldType.boolean) : Cond) ∈ wAll := wg (wt_3 _ (List.mem_of_getElem? (i := 52) rfl)) rfl
theorem wm_533 : (.methodLink RX4 71 yX4_isBeyondLimit : Cond) ∈ wAll := wg (wt_3 _ (List.mem_of_getElem? (i := 53) rfl)) rfl
theorem wm_535 : (.instanceMethod yX4_isBeyondLimit : Cond) ∈ wAll := wg (wt_3 _ (List.mem_of_getElem? (i := 55) rfl)) rfl
theorem wm_536 : (.code yX4_isBeyondLimit cX4_isBeyondLimit 2 (Option.some FieldType.boolean) : Cond) ∈ wAll := wg (wt_3 _ (List.mem_of_getElem? (i := 56) rfl)) rfl
theorem wm_537 : (.methodLink RX4 74 yX4_readNumbers : Cond) ∈ wAll := wg (wt_3 _ (List.mem_of_getElem? (i := 57) rfl)) rfl
theorem wm_539 : (.instanceMethod yX4_readNumbers : Cond) ∈ wAll := wg (wt_3 _ (List.mem_of_getElem? (i := 59) rfl)) rfl
theorem wm_540 : (.code yX4_readNumbers cX4_readNumbers 4 (Option.some FieldType.boolean) : Cond) ∈ wAll := wg (wt_3 _ (List.mem_of_getElem? (i := 60) rfl)) rfl
theorem wm_541 : (.methodLink RX4 99 yX2_highestRecipe : Cond) ∈ wAll := wg (wt_3 _ (List.mem_of_getElem? (i := 61) rfl)) rfl
theorem wm_542 : (.instanceMethod yX2_highestRecipe : Cond) ∈ wAll := wg (wt_3 _ (List.mem_of_getElem? (i := 62) rfl)) rfl
theorem wm_543 : (.selects RX2 yX2_highestRecipe yX2_highestRecipe : Cond) ∈ wAll := wg (wt_3 _ (List.mem_of_getElem? (i := 63) rfl)) rfl
theorem wm_544 : (.code yX2_highestRecipe cX2_highestRecipe 3 (Option.some FieldType.int) : Cond) ∈ wAll := wg (wt_3 _ (List.mem_of_getElem? (i := 64) rfl)) rfl
theorem wm_545 : (.methodLink RX4 77 yX4_readExtras : Cond) ∈ wAll := wg (wt_3 _ (List.mem_of_getElem? (i := 65) rfl)) rfl
theorem wm_547 : (.instanceMethod yX4_readExtras : Cond) ∈ wAll := wg (wt_3 _ (List.mem_of_getElem? (i := 67) rfl)) rfl
theorem wm_548 : (.code yX4_readExtras cX4_readExtras 5 (Option.some FieldType.boolean) : Cond) ∈ wAll := wg (wt_3 _ (List.mem_of_getElem? (i := 68) rfl)) rfl
theorem wm_549 : (.methodLink RX4 114 yX4_isExtra : Cond) ∈ wAll := wg (wt_3 _ (List.mem_of_getElem? (i := 69) rfl)) rfl
theorem wm_550 : (.static yX4_isExtra : Cond) ∈ wAll := wg (wt_3 _ (List.mem_of_getElem? (i := 70) rfl)) rfl
theorem wm_551 : (.code yX4_isExtra cX4_isExtra 1 (Option.some FieldType.boolean) : Cond) ∈ wAll := wg (wt_3 _ (List.mem_of_getElem? (i := 71) rfl)) rfl
theorem wm_552 : (.methodLink RX4 117 yX4_highestExtra : Cond) ∈ wAll := wg (wt_3 _ (List.mem_of_getElem? (i := 72) rfl)) rfl
theorem wm_553 : (.static yX4_highestExtra : Cond) ∈ wAll := wg (wt_3 _ (List.mem_of_getElem? (i := 73) rfl)) rfl
theorem wm_554 : (.code yX4_highestExtra cX4_highestExtra 2 (Option.some FieldType.int) : Cond) ∈ wAll := wg (wt_3 _ (List.mem_of_getElem? (i := 74) rfl)) rfl
theorem wm_555 : (.methodLink RX4 121 yX4_takeExtra : Cond) ∈ wAll := wg (wt_3 _ (List.mem_of_getElem? (i := 75) rfl)) rfl
theorem wm_557 : (.instanceMethod yX4_takeExtra : Cond) ∈ wAll := wg (wt_3 _ (List.mem_of_getElem? (i := 77) rfl)) rfl
theorem wm_558 : (.code yX4_takeExtra cX4_takeExtra 3 (Option.none : Option FieldType) : Cond) ∈ wAll := wg (wt_3 _ (List.mem_of_getElem? (i := 78) rfl)) rfl
theorem wm_559 : (.methodLink RX4 80 yX4_execute : Cond) ∈ wAll := wg (wt_3 _ (List.mem_of_getElem? (i := 79) rfl)) rfl
theorem wm_561 : (.instanceMethod yX4_execute : Cond) ∈ wAll := wg (wt_3 _ (List.mem_of_getElem? (i := 81) rfl)) rfl
theorem wm_562 : (.code yX4_execute cX4_execute 2 (Option.some FieldType.boolean) : Cond) ∈ wAll := wg (wt_3 _ (List.mem_of_getElem? (i := 82) rfl)) rfl
theorem wm_563 : (.methodLink RX4 125 yX2_create : Cond) ∈ wAll := wg (wt_3 _ (List.mem_of_getElem? (i := 83) rfl)) rfl
theorem wm_564 : (.instanceMethod yX2_create : Cond) ∈ wAll := wg (wt_3 _ (List.mem_of_getElem? (i := 84) rfl)) rfl
theorem wm_565 : (.selects RX2 yX2_create yX2_create : Cond) ∈ wAll := wg (wt_3 _ (List.mem_of_getElem? (i := 85) rfl)) rfl
theorem wm_566 : (.code yX2_create cX2_create 3 (Option.some FieldType.int) : Cond) ∈ wAll := wg (wt_3 _ (List.mem_of_getElem? (i := 86) rfl)) rfl
theorem wm_567 : (.methodLink RX4 129 yX6_createBread : Cond) ∈ wAll := wg (wt_3 _ (List.mem_of_getElem? (i := 87) rfl)) rfl
theorem wm_568 : (.instanceMethod yX6_createBread : Cond) ∈ wAll := wg (wt_3 _ (List.mem_of_getElem? (i := 88) rfl)) rfl
theorem wm_569 : (.selects RX6 yX6_createBread yX6_createBread : Cond) ∈ wAll := wg (wt_3 _ (List.mem_of_getElem? (i := 89) rfl)) rfl
theorem wm_570 : (.code yX6_createBread cX6_createBread 7 (Option.some FieldType.int) : Cond) ∈ wAll := wg (wt_3 _ (List.mem_of_getElem? (i := 90) rfl)) rfl
theorem wm_571 : (.methodLink RX6 80 yX1_create : Cond) ∈ wAll := wg (wt_3 _ (List.mem_of_getElem? (i := 91) rfl)) rfl
theorem wm_572 : (.instanceMethod yX1_create : Cond) ∈ wAll := wg (wt_3 _ (List.mem_of_getElem? (i := 92) rfl)) rfl
theorem wm_573 : (.selects RX1 yX1_create yX1_create : Cond) ∈ wAll := wg (wt_3 _ (List.mem_of_getElem? (i := 93) rfl)) rfl
theorem wm_574 : (.code yX1_create cX1_create 7 (Option.some FieldType.int) : Cond) ∈ wAll := wg (wt_3 _ (List.mem_of_getElem? (i := 94) rfl)) rfl
theorem wm_575 : (.methodLink RX4 133 yX6_buyLot : Cond) ∈ wAll := wg (wt_3 _ (List.mem_of_getElem? (i := 95) rfl)) rfl
theorem wm_576 : (.instanceMethod yX6_buyLot : Cond) ∈ wAll := wg (wt_3 _ (List.mem_of_getElem? (i := 96) rfl)) rfl
theorem wm_577 : (.selects RX6 yX6_buyLot yX6_buyLot : Cond) ∈ wAll := wg (wt_3 _ (List.mem_of_getElem? (i := 97) rfl)) rfl
theorem wm_578 : (.code yX6_buyLot cX6_buyLot 4 (Option.some FieldType.boolean) : Cond) ∈ wAll := wg (wt_3 _ (List.mem_of_getElem? (i := 98) rfl)) rfl
theorem wm_579 : (.methodLink RX6 101 yX6_canBuyLot : Cond) ∈ wAll := wg (wt_3 _ (List.mem_of_getElem? (i := 99) rfl)) rfl
theorem wm_580 : (.instanceMethod yX6_canBuyLot : Cond) ∈ wAll := wg (wt_3 _ (List.mem_of_getElem? (i := 100) rfl)) rfl
theorem wm_581 : (.selects RX6 yX6_canBuyLot yX6_canBuyLot : Cond) ∈ wAll := wg (wt_3 _ (List.mem_of_getElem? (i := 101) rfl)) rfl
theorem wm_582 : (.code yX6_canBuyLot cX6_canBuyLot 4 (Option.some FieldType.boolean) : Cond) ∈ wAll := wg (wt_3 _ (List.mem_of_getElem? (i := 102) rfl)) rfl
theorem wm_583 : (.methodLink RX6 105 yX2_addLot : Cond) ∈ wAll := wg (wt_3 _ (List.mem_of_getElem? (i := 103) rfl)) rfl
theorem wm_584 : (.instanceMethod yX2_addLot : Cond) ∈ wAll := wg (wt_3 _ (List.mem_of_getElem? (i := 104) rfl)) rfl
theorem wm_585 : (.selects RX2 yX2_addLot yX2_addLot : Cond) ∈ wAll := wg (wt_3 _ (List.mem_of_getElem? (i := 105) rfl)) rfl
theorem wm_586 : (.code yX2_addLot cX2_addLot 5 (Option.none : Option FieldType) : Cond) ∈ wAll := wg (wt_3 _ (List.mem_of_getElem? (i := 106) rfl)) rfl
theorem wm_587 : (.methodLink RX4 145 yX6_bakeBatch : Cond) ∈ wAll := wg (wt_3 _ (List.mem_of_getElem? (i := 107) rfl)) rfl
theorem wm_588 : (.instanceMethod yX6_bakeBatch : Cond) ∈ wAll := wg (wt_3 _ (List.mem_of_getElem? (i := 108) rfl)) rfl
theorem wm_589 : (.selects RX6 yX6_bakeBatch yX6_bakeBatch : Cond) ∈ wAll := wg (wt_3 _ (List.mem_of_getElem? (i := 109) rfl)) rfl
theorem wm_590 : (.code yX6_bakeBatch cX6_bakeBatch 11 (Option.some FieldType.int) : Cond) ∈ wAll := wg (wt_3 _ (List.mem_of_getElem? (i := 110) rfl)) rfl
theorem wm_591 : (.methodLink RX6 120 yX6_obstacle : Cond) ∈ wAll := wg (wt_3 _ (List.mem_of_getElem? (i := 111) rfl)) rfl
theorem wm_592 : (.instanceMethod yX6_obstacle : Cond) ∈ wAll := wg (wt_3 _ (List.mem_of_getElem? (i := 112) rfl)) rfl
theorem wm_593 : (.selects RX6 yX6_obstacle yX6_obstacle : Cond) ∈ wAll := wg (wt_3 _ (List.mem_of_getElem? (i := 113) rfl)) rfl
theorem wm_594 : (.code yX6_obstacle cX6_obstacle 8 (Option.some FieldType.int) : Cond) ∈ wAll := wg (wt_3 _ (List.mem_of_getElem? (i := 114) rfl)) rfl
theorem wm_595 : (.methodLink RX6 112 yX1_unitsFor : Cond) ∈ wAll := wg (wt_3 _ (List.mem_of_getElem? (i := 115) rfl)) rfl
theorem wm_596 : (.instanceMethod yX1_unitsFor : Cond) ∈ wAll := wg (wt_3 _ (List.mem_of_getElem? (i := 116) rfl)) rfl
theorem wm_597 : (.selects RX1 yX1_unitsFor yX1_unitsFor : Cond) ∈ wAll := wg (wt_3 _ (List.mem_of_getElem? (i := 117) rfl)) rfl
theorem wm_598 : (.code yX1_unitsFor cX1_unitsFor 6 (Option.some FieldType.int) : Cond) ∈ wAll := wg (wt_3 _ (List.mem_of_getElem? (i := 118) rfl)) rfl
theorem wm_599 : (.methodLink RX6 116 yX2_stock : Cond) ∈ wAll := wg (wt_3 _ (List.mem_of_getElem? (i := 119) rfl)) rfl
theorem wm_600 : (.instanceMethod yX2_stock : Cond) ∈ wAll := wg (wt_3 _ (List.mem_of_getElem? (i := 120) rfl)) rfl
theorem wm_601 : (.selects RX2 yX2_stock yX2_stock : Cond) ∈ wAll := wg (wt_3 _ (List.mem_of_getElem? (i := 121) rfl)) rfl
theorem wm_602 : (.code yX2_stock cX2_stock 2 (Option.some FieldType.int) : Cond) ∈ wAll := wg (wt_3 _ (List.mem_of_getElem? (i := 122) rfl)) rfl
theorem wm_604 : (.static yX8_sumOf : Cond) ∈ wAll := wg (wt_3 _ (List.mem_of_getElem? (i := 124) rfl)) rfl
theorem wm_605 : (.code yX8_sumOf cX8_sumOf 4 (Option.some FieldType.int) : Cond) ∈ wAll := wg (wt_3 _ (List.mem_of_getElem? (i := 125) rfl)) rfl
theorem wm_606 : (.methodLink RX6 135 yX6_flourCostOf : Cond) ∈ wAll := wg (wt_3 _ (List.mem_of_getElem? (i := 126) rfl)) rfl
theorem wm_608 : (.instanceMethod yX6_flourCostOf : Cond) ∈ wAll := wg (wt_3 _ (List.mem_of_getElem? (i := 128) rfl)) rfl
theorem wm_609 : (.code yX6_flourCostOf cX6_flourCostOf 6 (Option.some FieldType.int) : Cond) ∈ wAll := wg (wt_3 _ (List.mem_of_getElem? (i := 129) rfl)) rfl
theorem wm_610 : (.methodLink RX6 157 yX2_paidForNext : Cond) ∈ wAll := wg (wt_3 _ (List.mem_of_getElem? (i := 130) rfl)) rfl
theorem wm_611 : (.instanceMethod yX2_paidForNext : Cond) ∈ wAll := wg (wt_3 _ (List.mem_of_getElem? (i := 131) rfl)) rfl
theorem wm_612 : (.selects RX2 yX2_paidForNext yX2_paidForNext : Cond) ∈ wAll := wg (wt_3 _ (List.mem_of_getElem? (i := 132) rfl)) rfl
theorem wm_613 : (.code yX2_paidForNext cX2_paidForNext 7 (Option.some FieldType.int) : Cond) ∈ wAll := wg (wt_3 _ (List.mem_of_getElem? (i := 133) rfl)) rfl
theorem wm_614 : (.methodLink RX2 44 yJ9_min_7cf53 : Cond) ∈ wAll := wg (wt_3 _ (List.mem_of_getElem? (i := 134) rfl)) rfl
theorem wm_615 : (.methodLink RX6 138 yX6_useOven : Cond) ∈ wAll := wg (wt_3 _ (List.mem_of_getElem? (i := 135) rfl)) rfl
theorem wm_617 : (.instanceMethod yX6_useOven : Cond) ∈ wAll := wg (wt_3 _ (List.mem_of_getElem? (i := 137) rfl)) rfl
theorem wm_618 : (.code yX6_useOven cX6_useOven 6 (Option.none : Option FieldType) : Cond) ∈ wAll := wg (wt_3 _ (List.mem_of_getElem? (i := 138) rfl)) rfl
theorem wm_619 : (.methodLink RX6 161 yX5_firstFree : Cond) ∈ wAll := wg (wt_3 _ (List.mem_of_getElem? (i := 139) rfl)) rfl
theorem wm_620 : (.instanceMethod yX5_firstFree : Cond) ∈ wAll := wg (wt_3 _ (List.mem_of_getElem? (i := 140) rfl)) rfl
theorem wm_621 : (.selects RX5 yX5_firstFree yX5_firstFree : Cond) ∈ wAll := wg (wt_3 _ (List.mem_of_getElem? (i := 141) rfl)) rfl
theorem wm_622 : (.code yX5_firstFree cX5_firstFree 3 (Option.some FieldType.int) : Cond) ∈ wAll := wg (wt_3 _ (List.mem_of_getElem? (i := 142) rfl)) rfl
theorem wm_623 : (.methodLink RX6 165 yX5_startFrom : Cond) ∈ wAll := wg (wt_3 _ (List.mem_of_getElem? (i := 143) rfl)) rfl
theorem wm_624 : (.instanceMethod yX5_startFrom : Cond) ∈ wAll := wg (wt_3 _ (List.mem_of_getElem? (i := 144) rfl)) rfl
theorem wm_625 : (.selects RX5 yX5_startFrom yX5_startFrom : Cond) ∈ wAll := wg (wt_3 _ (List.mem_of_getElem? (i := 145) rfl)) rfl
theorem wm_626 : (.code yX5_startFrom cX5_startFrom 2 (Option.some FieldType.int) : Cond) ∈ wAll := wg (wt_3 _ (List.mem_of_getElem? (i := 146) rfl)) rfl
theorem wm_627 : (.methodLink RX5 29 yX5_firstFree : Cond) ∈ wAll := wg (wt_3 _ (List.mem_of_getElem? (i := 147) rfl)) rfl
theorem wm_628 : (.methodLink RX5 33 yJ9_max_7cf53 : Cond) ∈ wAll := wg (wt_3 _ (List.mem_of_getElem? (i := 148) rfl)) rfl
theorem wm_629 : (.static yJ9_max_7cf53 : Cond) ∈ wAll := wg (wt_3 _ (List.mem_of_getElem? (i := 149) rfl)) rfl
theorem wm_630 : (.code yJ9_max_7cf53 cJ9_max_7cf53 2 (Option.some FieldType.int) : Cond) ∈ wAll := wg (wt_3 _ (List.mem_of_getElem? (i := 150) rfl)) rfl
theorem wm_631 : (.methodLink RX6 168 yX5_priceOfMinutes : Cond) ∈ wAll := wg (wt_3 _ (List.mem_of_getElem? (i := 151) rfl)) rfl
theorem wm_632 : (.instanceMethod yX5_priceOfMinutes : Cond) ∈ wAll := wg (wt_3 _ (List.mem_of_getElem? (i := 152) rfl)) rfl
theorem wm_633 : (.selects RX5 yX5_priceOfMinutes yX5_priceOfMinutes : Cond) ∈ wAll := wg (wt_3 _ (List.mem_of_getElem? (i := 153) rfl)) rfl
theorem wm_634 : (.code yX5_priceOfMinutes cX5_priceOfMinutes 5 (Option.some FieldType.int) : Cond) ∈ wAll := wg (wt_3 _ (List.mem_of_getElem? (i := 154) rfl)) rfl
theorem wm_635 : (.methodLink RX5 39 yJ9_floorMod_7cf53 : Cond) ∈ wAll := wg (wt_3 _ (List.mem_of_getElem? (i := 155) rfl)) rfl
theorem wm_636 : (.static yJ9_floorMod_7cf53 : Cond) ∈ wAll := wg (wt_3 _ (List.mem_of_getElem? (i := 156) rfl)) rfl
theorem wm_637 : (.code yJ9_floorMod_7cf53 cJ9_floorMod_7cf53 3 (Option.some FieldType.int) : Cond) ∈ wAll := wg (wt_3 _ (List.mem_of_getElem? (i := 157) rfl)) rfl
theorem wm_638 : (.methodLink RX6 153 yX6_useFlour : Cond) ∈ wAll := wg (wt_3 _ (List.mem_of_getElem? (i := 158) rfl)) rfl
theorem wm_640 : (.instanceMethod yX6_useFlour : Cond) ∈ wAll := wg (wt_3 _ (List.mem_of_getElem? (i := 160) rfl)) rfl
theorem wm_641 : (.code yX6_useFlour cX6_useFlour 8 (Option.none : Option FieldType) : Cond) ∈ wAll := wg (wt_3 _ (List.mem_of_getElem? (i := 161) rfl)) rfl
theorem wm_642 : (.methodLink RX6 184 yX2_take : Cond) ∈ wAll := wg (wt_3 _ (List.mem_of_getElem? (i := 162) rfl)) rfl
theorem wm_643 : (.instanceMethod yX2_take : Cond) ∈ wAll := wg (wt_3 _ (List.mem_of_getElem? (i := 163) rfl)) rfl
theorem wm_644 : (.selects RX2 yX2_take yX2_take : Cond) ∈ wAll := wg (wt_3 _ (List.mem_of_getElem? (i := 164) rfl)) rfl
theorem wm_645 : (.code yX2_take cX2_take 8 (Option.none : Option FieldType) : Cond) ∈ wAll := wg (wt_3 _ (List.mem_of_getElem? (i := 165) rfl)) rfl
theorem wm_646 : (.methodLink RX4 149 yX6_sellLoaves : Cond) ∈ wAll := wg (wt_3 _ (List.mem_of_getElem? (i := 166) rfl)) rfl
theorem wm_647 : (.instanceMethod yX6_sellLoaves : Cond) ∈ wAll := wg (wt_3 _ (List.mem_of_getElem? (i := 167) rfl)) rfl
theorem wm_648 : (.selects RX6 yX6_sellLoaves yX6_sellLoaves : Cond) ∈ wAll := wg (wt_3 _ (List.mem_of_getElem? (i := 168) rfl)) rfl
theorem wm_649 : (.code yX6_sellLoaves cX6_sellLoaves 4 (Option.some FieldType.boolean) : Cond) ∈ wAll := wg (wt_3 _ (List.mem_of_getElem? (i := 169) rfl)) rfl
theorem wm_650 : (.methodLink RX8 74 yX7_clear : Cond) ∈ wAll := wg (wt_3 _ (List.mem_of_getElem? (i := 170) rfl)) rfl
theorem wm_651 : (.instanceMethod yX7_clear : Cond) ∈ wAll := wg (wt_3 _ (List.mem_of_getElem? (i := 171) rfl)) rfl
theorem wm_652 : (.selects RX7 yX7_clear yX7_clear : Cond) ∈ wAll := wg (wt_3 _ (List.mem_of_getElem? (i := 172) rfl)) rfl
theorem wm_653 : (.code yX7_clear cX7_clear 1 (Option.none : Option FieldType) : Cond) ∈ wAll := wg (wt_3 _ (List.mem_of_getElem? (i := 173) rfl)) rfl
theorem wm_654 : (.fieldLink RX8 10 "PennyBakery" "state" "LPennyBakery$State;" : Cond) ∈ wAll := wg (wt_3 _ (List.mem_of_getElem? (i := 174) rfl)) rfl
theorem wm_655 : (.fieldLink RX8 16 "PennyBakery" "draft" "LPennyBakery$State;" : Cond) ∈ wAll := wg (wt_3 _ (List.mem_of_getElem? (i := 175) rfl)) rfl
theorem wm_656 : (.fieldLink RX8 22 "PennyBakery" "history" "LPennyBakery$History;" : Cond) ∈ wAll := wg (wt_3 _ (List.mem_of_getElem? (i := 176) rfl)) rfl
theorem wm_657 : (.fieldLink RX8 26 "PennyBakery" "saved" "[LPennyBakery$State;" : Cond) ∈ wAll := wg (wt_3 _ (List.mem_of_getElem? (i := 177) rfl)) rfl
theorem wm_658 : (.fieldLink RX8 30 "PennyBakery" "isSaved" "[Z" : Cond) ∈ wAll := wg (wt_3 _ (List.mem_of_getElem? (i := 178) rfl)) rfl
theorem wm_659 : (.fieldLink RX8 37 "PennyBakery" "interpreter" "LPennyBakery$Interpreter;" : Cond) ∈ wAll := wg (wt_3 _ (List.mem_of_getElem? (i := 179) rfl)) rfl
theorem wm_660 : (.fieldLink RX8 44 "PennyBakery" "output" "Ljava/lang/StringBuilder;" : Cond) ∈ wAll := wg (wt_3 _ (List.mem_of_getElem? (i := 180) rfl)) rfl
theorem wm_661 : (.lays "PennyBakery" "PennyBakery" "state" "LPennyBakery$State;" : Cond) ∈ wAll := wg (wt_3 _ (List.mem_of_getElem? (i := 181) rfl)) rfl
theorem wm_663 : (.lays "PennyBakery" "PennyBakery" "draft" "LPennyBakery$State;" : Cond) ∈ wAll := wg (wt_3 _ (List.mem_of_getElem? (i := 183) rfl)) rfl
theorem wm_665 : (.laysFinal "PennyBakery" "PennyBakery" "history" "LPennyBakery$History;" : Cond) ∈ wAll := wg (wt_3 _ (List.mem_of_getElem? (i := 185) rfl)) rfl
theorem wm_667 : (.laysFinal "PennyBakery" "PennyBakery" "saved" "[LPennyBakery$State;" : Cond) ∈ wAll := wg (wt_3 _ (List.mem_of_getElem? (i := 187) rfl)) rfl
theorem wm_669 : (.laysFinal "PennyBakery" "PennyBakery" "isSaved" "[Z" : Cond) ∈ wAll := wg (wt_3 _ (List.mem_of_getElem? (i := 189) rfl)) rfl
theorem wm_671 : (.laysFinal "PennyBakery" "PennyBakery" "interpreter" "LPennyBakery$Interpreter;" : Cond) ∈ wAll := wg (wt_3 _ (List.mem_of_getElem? (i := 191) rfl)) rfl
theorem wm_673 : (.laysFinal "PennyBakery" "PennyBakery" "output" "Ljava/lang/StringBuilder;" : Cond) ∈ wAll := wg (wt_3 _ (List.mem_of_getElem? (i := 193) rfl)) rfl
theorem wm_675 : (.superclass "PennyBakery" "java/lang/Object" : Cond) ∈ wAll := wg (wt_3 _ (List.mem_of_getElem? (i := 195) rfl)) rfl
theorem wm_676 : (.methodLink RL 141 yX8_feed : Cond) ∈ wAll := wg (wt_3 _ (List.mem_of_getElem? (i := 196) rfl)) rfl
theorem wm_677 : (.instanceMethod yX8_feed : Cond) ∈ wAll := wg (wt_3 _ (List.mem_of_getElem? (i := 197) rfl)) rfl
theorem wm_678 : (.selects RX8 yX8_feed yX8_feed : Cond) ∈ wAll := wg (wt_3 _ (List.mem_of_getElem? (i := 198) rfl)) rfl
theorem wm_679 : (.code yX8_feed cX8_feed 8 (Option.some FieldType.int) : Cond) ∈ wAll := wg (wt_3 _ (List.mem_of_getElem? (i := 199) rfl)) rfl
theorem wm_680 : (.methodLink RX8 77 yX8_bytesIn : Cond) ∈ wAll := wg (wt_3 _ (List.mem_of_getElem? (i := 200) rfl)) rfl
theorem wm_681 : (.static yX8_bytesIn : Cond) ∈ wAll := wg (wt_3 _ (List.mem_of_getElem? (i := 201) rfl)) rfl
theorem wm_682 : (.code yX8_bytesIn cX8_bytesIn 3 (Option.some FieldType.int) : Cond) ∈ wAll := wg (wt_3 _ (List.mem_of_getElem? (i := 202) rfl)) rfl
theorem wm_683 : (.methodLink RX8 84 yX8_appendBytes : Cond) ∈ wAll := wg (wt_3 _ (List.mem_of_getElem? (i := 203) rfl)) rfl
theorem wm_685 : (.instanceMethod yX8_appendBytes : Cond) ∈ wAll := wg (wt_3 _ (List.mem_of_getElem? (i := 205) rfl)) rfl
theorem wm_686 : (.code yX8_appendBytes cX8_appendBytes 4 (Option.none : Option FieldType) : Cond) ∈ wAll := wg (wt_3 _ (List.mem_of_getElem? (i := 206) rfl)) rfl
theorem wm_687 : (.methodLink RL 145 yX8_loadSetup : Cond) ∈ wAll := wg (wt_3 _ (List.mem_of_getElem? (i := 207) rfl)) rfl
theorem wm_688 : (.instanceMethod yX8_loadSetup : Cond) ∈ wAll := wg (wt_3 _ (List.mem_of_getElem? (i := 208) rfl)) rfl
theorem wm_689 : (.selects RX8 yX8_loadSetup yX8_loadSetup : Cond) ∈ wAll := wg (wt_3 _ (List.mem_of_getElem? (i := 209) rfl)) rfl
theorem wm_690 : (.code yX8_loadSetup cX8_loadSetup 3 (Option.some FieldType.int) : Cond) ∈ wAll := wg (wt_3 _ (List.mem_of_getElem? (i := 210) rfl)) rfl
theorem wm_691 : (.methodLink RX8 87 yX8_takeDraft : Cond) ∈ wAll := wg (wt_3 _ (List.mem_of_getElem? (i := 211) rfl)) rfl
theorem wm_693 : (.instanceMethod yX8_takeDraft : Cond) ∈ wAll := wg (wt_3 _ (List.mem_of_getElem? (i := 213) rfl)) rfl
theorem wm_694 : (.code yX8_takeDraft cX8_takeDraft 2 (Option.none : Option FieldType) : Cond) ∈ wAll := wg (wt_3 _ (List.mem_of_getElem? (i := 214) rfl)) rfl
theorem wm_695 : (.methodLink RX8 90 yX3_forget : Cond) ∈ wAll := wg (wt_3 _ (List.mem_of_getElem? (i := 215) rfl)) rfl
theorem wm_696 : (.instanceMethod yX3_forget : Cond) ∈ wAll := wg (wt_3 _ (List.mem_of_getElem? (i := 216) rfl)) rfl
theorem wm_697 : (.selects RX3 yX3_forget yX3_forget : Cond) ∈ wAll := wg (wt_3 _ (List.mem_of_getElem? (i := 217) rfl)) rfl
theorem wm_698 : (.code yX3_forget cX3_forget 1 (Option.none : Option FieldType) : Cond) ∈ wAll := wg (wt_3 _ (List.mem_of_getElem? (i := 218) rfl)) rfl
theorem wm_699 : (.methodLink RL 149 yX8_runScript : Cond) ∈ wAll := wg (wt_3 _ (List.mem_of_getElem? (i := 219) rfl)) rfl
theorem wm_700 : (.instanceMethod yX8_runScript : Cond) ∈ wAll := wg (wt_3 _ (List.mem_of_getElem? (i := 220) rfl)) rfl
theorem wm_701 : (.selects RX8 yX8_runScript yX8_runScript : Cond) ∈ wAll := wg (wt_3 _ (List.mem_of_getElem? (i := 221) rfl)) rfl
theorem wm_702 : (.code yX8_runScript cX8_runScript 2 (Option.some FieldType.int) : Cond) ∈ wAll := wg (wt_3 _ (List.mem_of_getElem? (i := 222) rfl)) rfl
theorem wm_703 : (.methodLink RX8 102 yX6_copyFrom : Cond) ∈ wAll := wg (wt_3 _ (List.mem_of_getElem? (i := 223) rfl)) rfl
theorem wm_704 : (.instanceMethod yX6_copyFrom : Cond) ∈ wAll := wg (wt_3 _ (List.mem_of_getElem? (i := 224) rfl)) rfl
theorem wm_705 : (.selects RX6 yX6_copyFrom yX6_copyFrom : Cond) ∈ wAll := wg (wt_3 _ (List.mem_of_getElem? (i := 225) rfl)) rfl
theorem wm_706 : (.code yX6_copyFrom cX6_copyFrom 2 (Option.none : Option FieldType) : Cond) ∈ wAll := wg (wt_3 _ (List.mem_of_getElem? (i := 226) rfl)) rfl
theorem wm_707 : (.methodLink RX6 58 yX2_copyFrom : Cond) ∈ wAll := wg (wt_3 _ (List.mem_of_getElem? (i := 227) rfl)) rfl
theorem wm_708 : (.instanceMethod yX2_copyFrom : Cond) ∈ wAll := wg (wt_3 _ (List.mem_of_getElem? (i := 228) rfl)) rfl
theorem wm_709 : (.selects RX2 yX2_copyFrom yX2_copyFrom : Cond) ∈ wAll := wg (wt_3 _ (List.mem_of_getElem? (i := 229) rfl)) rfl
theorem wm_710 : (.code yX2_copyFrom cX2_copyFrom 3 (Option.none : Option FieldType) : Cond) ∈ wAll := wg (wt_3 _ (List.mem_of_getElem? (i := 230) rfl)) rfl
theorem wm_712 : (.static yX8_copyRow : Cond) ∈ wAll := wg (wt_3 _ (List.mem_of_getElem? (i := 232) rfl)) rfl
theorem wm_713 : (.code yX8_copyRow cX8_copyRow 2 (Option.none : Option FieldType) : Cond) ∈ wAll := wg (wt_3 _ (List.mem_of_getElem? (i := 233) rfl)) rfl
theorem wm_714 : (.methodLink RX8 370 yJ9_min_7cf53 : Cond) ∈ wAll := wg (wt_3 _ (List.mem_of_getElem? (i := 234) rfl)) rfl
theorem wm_715 : (.methodLink RX8 375 ⟨"java/lang/System", "arraycopy", "(Ljava/lang/Object;ILjava/lang/Object;II)V"⟩ : Cond) ∈ wAll := wg (wt_3 _ (List.mem_of_getElem? (i := 235) rfl)) rfl
theorem wm_716 : (.static ⟨"java/lang/System", "arraycopy", "(Ljava/lang/Object;ILjava/lang/Object;II)V"⟩ : Cond) ∈ wAll := wg (wt_3 _ (List.mem_of_getElem? (i := 236) rfl)) rfl
theorem wm_717 : (.native ⟨"java/lang/System", "arraycopy", "(Ljava/lang/Object;ILjava/lang/Object;II)V"⟩ : Cond) ∈ wAll := wg (wt_3 _ (List.mem_of_getElem? (i := 237) rfl)) rfl
theorem wm_718 : (.methodLink RX6 62 yX1_copyFrom : Cond) ∈ wAll := wg (wt_3 _ (List.mem_of_getElem? (i := 238) rfl)) rfl
theorem wm_719 : (.instanceMethod yX1_copyFrom : Cond) ∈ wAll := wg (wt_3 _ (List.mem_of_getElem? (i := 239) rfl)) rfl
theorem wm_720 : (.selects RX1 yX1_copyFrom yX1_copyFrom : Cond) ∈ wAll := wg (wt_4 _ (List.mem_of_getElem? (i := 0) rfl)) rfl
theorem wm_721 : (.code yX1_copyFrom cX1_copyFrom 3 (Option.none : Option FieldType) : Cond) ∈ wAll := wg (wt_4 _ (List.mem_of_getElem? (i := 1) rfl)) rfl
theorem wm_723 : (.methodLink RX6 65 yX5_copyFrom : Cond) ∈ wAll := wg (wt_4 _ (List.mem_of_getElem? (i := 3) rfl)) rfl
theorem wm_724 : (.instanceMethod yX5_copyFrom : Cond) ∈ wAll := wg (wt_4 _ (List.mem_of_getElem? (i := 4) rfl)) rfl
theorem wm_725 : (.selects RX5 yX5_copyFrom yX5_copyFrom : Cond) ∈ wAll := wg (wt_4 _ (List.mem_of_getElem? (i := 5) rfl)) rfl
theorem wm_726 : (.code yX5_copyFrom cX5_copyFrom 2 (Option.none : Option FieldType) : Cond) ∈ wAll := wg (wt_4 _ (List.mem_of_getElem? (i := 6) rfl)) rfl
theorem wm_728 : (.methodLink RX6 68 yX0_copyFrom : Cond) ∈ wAll := wg (wt_4 _ (List.mem_of_getElem? (i := 8) rfl)) rfl
theorem wm_729 : (.instanceMethod yX0_copyFrom : Cond) ∈ wAll := wg (wt_4 _ (List.mem_of_getElem? (i := 9) rfl)) rfl
theorem wm_730 : (.selects RX0 yX0_copyFrom yX0_copyFrom : Cond) ∈ wAll := wg (wt_4 _ (List.mem_of_getElem? (i := 10) rfl)) rfl
theorem wm_731 : (.code yX0_copyFrom cX0_copyFrom 3 (Option.none : Option FieldType) : Cond) ∈ wAll := wg (wt_4 _ (List.mem_of_getElem? (i := 11) rfl)) rfl
theorem wm_733 : (.methodLink RX8 106 yX3_remember : Cond) ∈ wAll := wg (wt_4 _ (List.mem_of_getElem? (i := 13) rfl)) rfl
theorem wm_734 : (.instanceMethod yX3_remember : Cond) ∈ wAll := wg (wt_4 _ (List.mem_of_getElem? (i := 14) rfl)) rfl
theorem wm_735 : (.selects RX3 yX3_remember yX3_remember : Cond) ∈ wAll := wg (wt_4 _ (List.mem_of_getElem? (i := 15) rfl)) rfl
theorem wm_736 : (.code yX3_remember cX3_remember 2 (Option.none : Option FieldType) : Cond) ∈ wAll := wg (wt_4 _ (List.mem_of_getElem? (i := 16) rfl)) rfl
theorem wm_737 : (.methodLink RX3 22 yX6_copyFrom : Cond) ∈ wAll := wg (wt_4 _ (List.mem_of_getElem? (i := 17) rfl)) rfl
theorem wm_738 : (.methodLink RX3 29 yJ9_min_7cf53 : Cond) ∈ wAll := wg (wt_4 _ (List.mem_of_getElem? (i := 18) rfl)) rfl
theorem wm_739 : (.methodLink RL 153 yX8_errorCode : Cond) ∈ wAll := wg (wt_4 _ (List.mem_of_getElem? (i := 19) rfl)) rfl
theorem wm_740 : (.instanceMethod yX8_errorCode : Cond) ∈ wAll := wg (wt_4 _ (List.mem_of_getElem? (i := 20) rfl)) rfl
theorem wm_741 : (.selects RX8 yX8_errorCode yX8_errorCode : Cond) ∈ wAll := wg (wt_4 _ (List.mem_of_getElem? (i := 21) rfl)) rfl
theorem wm_742 : (.code yX8_errorCode cX8_errorCode 1 (Option.some FieldType.int) : Cond) ∈ wAll := wg (wt_4 _ (List.mem_of_getElem? (i := 22) rfl)) rfl
theorem wm_743 : (.methodLink RL 157 yX8_errorPosition : Cond) ∈ wAll := wg (wt_4 _ (List.mem_of_getElem? (i := 23) rfl)) rfl
theorem wm_744 : (.instanceMethod yX8_errorPosition : Cond) ∈ wAll := wg (wt_4 _ (List.mem_of_getElem? (i := 24) rfl)) rfl
theorem wm_745 : (.selects RX8 yX8_errorPosition yX8_errorPosition : Cond) ∈ wAll := wg (wt_4 _ (List.mem_of_getElem? (i := 25) rfl)) rfl
theorem wm_746 : (.code yX8_errorPosition cX8_errorPosition 1 (Option.some FieldType.int) : Cond) ∈ wAll := wg (wt_4 _ (List.mem_of_getElem? (i := 26) rfl)) rfl
theorem wm_747 : (.methodLink RL 161 yX8_clock : Cond) ∈ wAll := wg (wt_4 _ (List.mem_of_getElem? (i := 27) rfl)) rfl
theorem wm_748 : (.instanceMethod yX8_clock : Cond) ∈ wAll := wg (wt_4 _ (List.mem_of_getElem? (i := 28) rfl)) rfl
theorem wm_749 : (.selects RX8 yX8_clock yX8_clock : Cond) ∈ wAll := wg (wt_4 _ (List.mem_of_getElem? (i := 29) rfl)) rfl
theorem wm_750 : (.code yX8_clock cX8_clock 1 (Option.some FieldType.int) : Cond) ∈ wAll := wg (wt_4 _ (List.mem_of_getElem? (i := 30) rfl)) rfl
theorem wm_751 : (.methodLink RL 165 yX8_cash : Cond) ∈ wAll := wg (wt_4 _ (List.mem_of_getElem? (i := 31) rfl)) rfl
theorem wm_752 : (.instanceMethod yX8_cash : Cond) ∈ wAll := wg (wt_4 _ (List.mem_of_getElem? (i := 32) rfl)) rfl
theorem wm_753 : (.selects RX8 yX8_cash yX8_cash : Cond) ∈ wAll := wg (wt_4 _ (List.mem_of_getElem? (i := 33) rfl)) rfl
theorem wm_754 : (.code yX8_cash cX8_cash 1 (Option.some FieldType.int) : Cond) ∈ wAll := wg (wt_4 _ (List.mem_of_getElem? (i := 34) rfl)) rfl
theorem wm_755 : (.methodLink RL 169 yX8_undoCount : Cond) ∈ wAll := wg (wt_4 _ (List.mem_of_getElem? (i := 35) rfl)) rfl
theorem wm_756 : (.instanceMethod yX8_undoCount : Cond) ∈ wAll := wg (wt_4 _ (List.mem_of_getElem? (i := 36) rfl)) rfl
theorem wm_757 : (.selects RX8 yX8_undoCount yX8_undoCount : Cond) ∈ wAll := wg (wt_4 _ (List.mem_of_getElem? (i := 37) rfl)) rfl
theorem wm_758 : (.code yX8_undoCount cX8_undoCount 1 (Option.some FieldType.int) : Cond) ∈ wAll := wg (wt_4 _ (List.mem_of_getElem? (i := 38) rfl)) rfl
theorem wm_759 : (.methodLink RL 173 yX8_flourCount : Cond) ∈ wAll := wg (wt_4 _ (List.mem_of_getElem? (i := 39) rfl)) rfl
theorem wm_760 : (.instanceMethod yX8_flourCount : Cond) ∈ wAll := wg (wt_4 _ (List.mem_of_getElem? (i := 40) rfl)) rfl
theorem wm_761 : (.selects RX8 yX8_flourCount yX8_flourCount : Cond) ∈ wAll := wg (wt_4 _ (List.mem_of_getElem? (i := 41) rfl)) rfl
theorem wm_762 : (.code yX8_flourCount cX8_flourCount 1 (Option.some FieldType.int) : Cond) ∈ wAll := wg (wt_4 _ (List.mem_of_getElem? (i := 42) rfl)) rfl
theorem wm_763 : (.methodLink RL 199 yX8_breadCount : Cond) ∈ wAll := wg (wt_4 _ (List.mem_of_getElem? (i := 43) rfl)) rfl
theorem wm_764 : (.instanceMethod yX8_breadCount : Cond) ∈ wAll := wg (wt_4 _ (List.mem_of_getElem? (i := 44) rfl)) rfl
theorem wm_765 : (.selects RX8 yX8_breadCount yX8_breadCount : Cond) ∈ wAll := wg (wt_4 _ (List.mem_of_getElem? (i := 45) rfl)) rfl
theorem wm_766 : (.code yX8_breadCount cX8_breadCount 1 (Option.some FieldType.int) : Cond) ∈ wAll := wg (wt_4 _ (List.mem_of_getElem? (i := 46) rfl)) rfl
theorem wm_767 : (.methodLink RL 218 yX8_ovenCount : Cond) ∈ wAll := wg (wt_4 _ (List.mem_of_getElem? (i := 47) rfl)) rfl
theorem wm_768 : (.instanceMethod yX8_ovenCount : Cond) ∈ wAll := wg (wt_4 _ (List.mem_of_getElem? (i := 48) rfl)) rfl
theorem wm_769 : (.selects RX8 yX8_ovenCount yX8_ovenCount : Cond) ∈ wAll := wg (wt_4 _ (List.mem_of_getElem? (i := 49) rfl)) rfl
theorem wm_770 : (.code yX8_ovenCount cX8_ovenCount 1 (Option.some FieldType.int) : Cond) ∈ wAll := wg (wt_4 _ (List.mem_of_getElem? (i := 50) rfl)) rfl
theorem wm_771 : (.methodLink RL 225 yX8_nextOven : Cond) ∈ wAll := wg (wt_4 _ (List.mem_of_getElem? (i := 51) rfl)) rfl
theorem wm_772 : (.instanceMethod yX8_nextOven : Cond) ∈ wAll := wg (wt_4 _ (List.mem_of_getElem? (i := 52) rfl)) rfl
theorem wm_773 : (.selects RX8 yX8_nextOven yX8_nextOven : Cond) ∈ wAll := wg (wt_4 _ (List.mem_of_getElem? (i := 53) rfl)) rfl
theorem wm_774 : (.code yX8_nextOven cX8_nextOven 1 (Option.some FieldType.int) : Cond) ∈ wAll := wg (wt_4 _ (List.mem_of_getElem? (i := 54) rfl)) rfl
theorem wm_775 : (.methodLink RX8 194 yX5_firstFree : Cond) ∈ wAll := wg (wt_4 _ (List.mem_of_getElem? (i := 55) rfl)) rfl
theorem wm_776 : (.methodLink RL 232 yX8_standardRate : Cond) ∈ wAll := wg (wt_4 _ (List.mem_of_getElem? (i := 56) rfl)) rfl
theorem wm_777 : (.instanceMethod yX8_standardRate : Cond) ∈ wAll := wg (wt_4 _ (List.mem_of_getElem? (i := 57) rfl)) rfl
theorem wm_778 : (.selects RX8 yX8_standardRate yX8_standardRate : Cond) ∈ wAll := wg (wt_4 _ (List.mem_of_getElem? (i := 58) rfl)) rfl
theorem wm_779 : (.code yX8_standardRate cX8_standardRate 1 (Option.some FieldType.int) : Cond) ∈ wAll := wg (wt_4 _ (List.mem_of_getElem? (i := 59) rfl)) rfl
theorem wm_780 : (.methodLink RL 236 yX8_batchCount : Cond) ∈ wAll := wg (wt_4 _ (List.mem_of_getElem? (i := 60) rfl)) rfl
theorem wm_781 : (.instanceMethod yX8_batchCount : Cond) ∈ wAll := wg (wt_4 _ (List.mem_of_getElem? (i := 61) rfl)) rfl
theorem wm_782 : (.selects RX8 yX8_batchCount yX8_batchCount : Cond) ∈ wAll := wg (wt_4 _ (List.mem_of_getElem? (i := 62) rfl)) rfl
theorem wm_783 : (.code yX8_batchCount cX8_batchCount 1 (Option.some FieldType.int) : Cond) ∈ wAll := wg (wt_4 _ (List.mem_of_getElem? (i := 63) rfl)) rfl
theorem wm_784 : (.methodLink RL 273 yX8_totalLoss : Cond) ∈ wAll := wg (wt_4 _ (List.mem_of_getElem? (i := 64) rfl)) rfl
theorem wm_785 : (.instanceMethod yX8_totalLoss : Cond) ∈ wAll := wg (wt_4 _ (List.mem_of_getElem? (i := 65) rfl)) rfl
theorem wm_786 : (.selects RX8 yX8_totalLoss yX8_totalLoss : Cond) ∈ wAll := wg (wt_4 _ (List.mem_of_getElem? (i := 66) rfl)) rfl
theorem wm_787 : (.code yX8_totalLoss cX8_totalLoss 1 (Option.some FieldType.int) : Cond) ∈ wAll := wg (wt_4 _ (List.mem_of_getElem? (i := 67) rfl)) rfl
theorem wm_788 : (.methodLink RX8 248 yX6_sumOfAllGaps : Cond) ∈ wAll := wg (wt_4 _ (List.mem_of_getElem? (i := 68) rfl)) rfl
theorem wm_789 : (.instanceMethod yX6_sumOfAllGaps : Cond) ∈ wAll := wg (wt_4 _ (List.mem_of_getElem? (i := 69) rfl)) rfl
theorem wm_790 : (.selects RX6 yX6_sumOfAllGaps yX6_sumOfAllGaps : Cond) ∈ wAll := wg (wt_4 _ (List.mem_of_getElem? (i := 70) rfl)) rfl
theorem wm_791 : (.code yX6_sumOfAllGaps cX6_sumOfAllGaps 3 (Option.some FieldType.int) : Cond) ∈ wAll := wg (wt_4 _ (List.mem_of_getElem? (i := 71) rfl)) rfl
theorem wm_792 : (.methodLink RX6 199 yX6_sumOfKind : Cond) ∈ wAll := wg (wt_4 _ (List.mem_of_getElem? (i := 72) rfl)) rfl
theorem wm_793 : (.instanceMethod yX6_sumOfKind : Cond) ∈ wAll := wg (wt_4 _ (List.mem_of_getElem? (i := 73) rfl)) rfl
theorem wm_794 : (.selects RX6 yX6_sumOfKind yX6_sumOfKind : Cond) ∈ wAll := wg (wt_4 _ (List.mem_of_getElem? (i := 74) rfl)) rfl
theorem wm_795 : (.code yX6_sumOfKind cX6_sumOfKind 2 (Option.some FieldType.int) : Cond) ∈ wAll := wg (wt_4 _ (List.mem_of_getElem? (i := 75) rfl)) rfl
theorem wm_796 : (.methodLink RX6 196 yX0_sumOfGaps : Cond) ∈ wAll := wg (wt_4 _ (List.mem_of_getElem? (i := 76) rfl)) rfl
theorem wm_797 : (.instanceMethod yX0_sumOfGaps : Cond) ∈ wAll := wg (wt_4 _ (List.mem_of_getElem? (i := 77) rfl)) rfl
theorem wm_798 : (.selects RX0 yX0_sumOfGaps yX0_sumOfGaps : Cond) ∈ wAll := wg (wt_4 _ (List.mem_of_getElem? (i := 78) rfl)) rfl
theorem wm_799 : (.code yX0_sumOfGaps cX0_sumOfGaps 4 (Option.some FieldType.int) : Cond) ∈ wAll := wg (wt_4 _ (List.mem_of_getElem? (i := 79) rfl)) rfl
theorem wm_800 : (.methodLink RL 277 yX8_worstBatch : Cond) ∈ wAll := wg (wt_4 _ (List.mem_of_getElem? (i := 80) rfl)) rfl
theorem wm_801 : (.instanceMethod yX8_worstBatch : Cond) ∈ wAll := wg (wt_4 _ (List.mem_of_getElem? (i := 81) rfl)) rfl
theorem wm_802 : (.selects RX8 yX8_worstBatch yX8_worstBatch : Cond) ∈ wAll := wg (wt_4 _ (List.mem_of_getElem? (i := 82) rfl)) rfl
theorem wm_803 : (.code yX8_worstBatch cX8_worstBatch 1 (Option.some FieldType.int) : Cond) ∈ wAll := wg (wt_4 _ (List.mem_of_getElem? (i := 83) rfl)) rfl
theorem wm_804 : (.methodLink RX8 251 yX0_dearest : Cond) ∈ wAll := wg (wt_4 _ (List.mem_of_getElem? (i := 84) rfl)) rfl
theorem wm_805 : (.instanceMethod yX0_dearest : Cond) ∈ wAll := wg (wt_4 _ (List.mem_of_getElem? (i := 85) rfl)) rfl
theorem wm_806 : (.selects RX0 yX0_dearest yX0_dearest : Cond) ∈ wAll := wg (wt_4 _ (List.mem_of_getElem? (i := 86) rfl)) rfl
theorem wm_807 : (.code yX0_dearest cX0_dearest 3 (Option.some FieldType.int) : Cond) ∈ wAll := wg (wt_4 _ (List.mem_of_getElem? (i := 87) rfl)) rfl
theorem wm_808 : (.methodLink RL 281 yX8_worstKind : Cond) ∈ wAll := wg (wt_4 _ (List.mem_of_getElem? (i := 88) rfl)) rfl
theorem wm_809 : (.instanceMethod yX8_worstKind : Cond) ∈ wAll := wg (wt_4 _ (List.mem_of_getElem? (i := 89) rfl)) rfl
theorem wm_810 : (.selects RX8 yX8_worstKind yX8_worstKind : Cond) ∈ wAll := wg (wt_4 _ (List.mem_of_getElem? (i := 90) rfl)) rfl
theorem wm_811 : (.code yX8_worstKind cX8_worstKind 1 (Option.some FieldType.int) : Cond) ∈ wAll := wg (wt_4 _ (List.mem_of_getElem? (i := 91) rfl)) rfl
theorem wm_812 : (.methodLink RX8 254 yX6_dearestKind : Cond) ∈ wAll := wg (wt_4 _ (List.mem_of_getElem? (i := 92) rfl)) rfl
theorem wm_813 : (.instanceMethod yX6_dearestKind : Cond) ∈ wAll := wg (wt_4 _ (List.mem_of_getElem? (i := 93) rfl)) rfl
theorem wm_814 : (.selects RX6 yX6_dearestKind yX6_dearestKind : Cond) ∈ wAll := wg (wt_4 _ (List.mem_of_getElem? (i := 94) rfl)) rfl
theorem wm_815 : (.code yX6_dearestKind cX6_dearestKind 3 (Option.some FieldType.int) : Cond) ∈ wAll := wg (wt_4 _ (List.mem_of_getElem? (i := 95) rfl)) rfl
theorem wm_816 : (.methodLink RL 298 yX8_income : Cond) ∈ wAll := wg (wt_4 _ (List.mem_of_getElem? (i := 96) rfl)) rfl
theorem wm_817 : (.instanceMethod yX8_income : Cond) ∈ wAll := wg (wt_4 _ (List.mem_of_getElem? (i := 97) rfl)) rfl
theorem wm_818 : (.selects RX8 yX8_income yX8_income : Cond) ∈ wAll := wg (wt_4 _ (List.mem_of_getElem? (i := 98) rfl)) rfl
theorem wm_819 : (.code yX8_income cX8_income 1 (Option.some FieldType.int) : Cond) ∈ wAll := wg (wt_4 _ (List.mem_of_getElem? (i := 99) rfl)) rfl
theorem wm_820 : (.methodLink RL 302 yX8_spentOnFlour : Cond) ∈ wAll := wg (wt_4 _ (List.mem_of_getElem? (i := 100) rfl)) rfl
theorem wm_821 : (.instanceMethod yX8_spentOnFlour : Cond) ∈ wAll := wg (wt_4 _ (List.mem_of_getElem? (i := 101) rfl)) rfl
theorem wm_822 : (.selects RX8 yX8_spentOnFlour yX8_spentOnFlour : Cond) ∈ wAll := wg (wt_4 _ (List.mem_of_getElem? (i := 102) rfl)) rfl
theorem wm_823 : (.code yX8_spentOnFlour cX8_spentOnFlour 1 (Option.some FieldType.int) : Cond) ∈ wAll := wg (wt_4 _ (List.mem_of_getElem? (i := 103) rfl)) rfl
theorem wm_824 : (.methodLink RL 306 yX8_spentOnOvens : Cond) ∈ wAll := wg (wt_4 _ (List.mem_of_getElem? (i := 104) rfl)) rfl
theorem wm_825 : (.instanceMethod yX8_spentOnOvens : Cond) ∈ wAll := wg (wt_4 _ (List.mem_of_getElem? (i := 105) rfl)) rfl
theorem wm_826 : (.selects RX8 yX8_spentOnOvens yX8_spentOnOvens : Cond) ∈ wAll := wg (wt_4 _ (List.mem_of_getElem? (i := 106) rfl)) rfl
theorem wm_827 : (.code yX8_spentOnOvens cX8_spentOnOvens 1 (Option.some FieldType.int) : Cond) ∈ wAll := wg (wt_4 _ (List.mem_of_getElem? (i := 107) rfl)) rfl
theorem wm_828 : (.methodLink RX8 283 yX0_sumOfOvenCosts : Cond) ∈ wAll := wg (wt_4 _ (List.mem_of_getElem? (i := 108) rfl)) rfl
theorem wm_829 : (.instanceMethod yX0_sumOfOvenCosts : Cond) ∈ wAll := wg (wt_4 _ (List.mem_of_getElem? (i := 109) rfl)) rfl
theorem wm_830 : (.selects RX0 yX0_sumOfOvenCosts yX0_sumOfOvenCosts : Cond) ∈ wAll := wg (wt_4 _ (List.mem_of_getElem? (i := 110) rfl)) rfl
theorem wm_831 : (.code yX0_sumOfOvenCosts cX0_sumOfOvenCosts 1 (Option.some FieldType.int) : Cond) ∈ wAll := wg (wt_4 _ (List.mem_of_getElem? (i := 111) rfl)) rfl
theorem wm_833 : (.methodLink RL 310 yX8_flourValue : Cond) ∈ wAll := wg (wt_4 _ (List.mem_of_getElem? (i := 113) rfl)) rfl
theorem wm_834 : (.instanceMethod yX8_flourValue : Cond) ∈ wAll := wg (wt_4 _ (List.mem_of_getElem? (i := 114) rfl)) rfl
theorem wm_835 : (.selects RX8 yX8_flourValue yX8_flourValue : Cond) ∈ wAll := wg (wt_4 _ (List.mem_of_getElem? (i := 115) rfl)) rfl
theorem wm_836 : (.code yX8_flourValue cX8_flourValue 1 (Option.some FieldType.int) : Cond) ∈ wAll := wg (wt_4 _ (List.mem_of_getElem? (i := 116) rfl)) rfl
theorem wm_837 : (.methodLink RX8 286 yX2_value : Cond) ∈ wAll := wg (wt_4 _ (List.mem_of_getElem? (i := 117) rfl)) rfl
theorem wm_838 : (.instanceMethod yX2_value : Cond) ∈ wAll := wg (wt_4 _ (List.mem_of_getElem? (i := 118) rfl)) rfl
theorem wm_839 : (.selects RX2 yX2_value yX2_value : Cond) ∈ wAll := wg (wt_4 _ (List.mem_of_getElem? (i := 119) rfl)) rfl
theorem wm_840 : (.code yX2_value cX2_value 4 (Option.some FieldType.int) : Cond) ∈ wAll := wg (wt_4 _ (List.mem_of_getElem? (i := 120) rfl)) rfl
theorem wm_841 : (.methodLink RL 314 yX8_loafValue : Cond) ∈ wAll := wg (wt_4 _ (List.mem_of_getElem? (i := 121) rfl)) rfl
theorem wm_842 : (.instanceMethod yX8_loafValue : Cond) ∈ wAll := wg (wt_4 _ (List.mem_of_getElem? (i := 122) rfl)) rfl
theorem wm_843 : (.selects RX8 yX8_loafValue yX8_loafValue : Cond) ∈ wAll := wg (wt_4 _ (List.mem_of_getElem? (i := 123) rfl)) rfl
theorem wm_844 : (.code yX8_loafValue cX8_loafValue 1 (Option.some FieldType.int) : Cond) ∈ wAll := wg (wt_4 _ (List.mem_of_getElem? (i := 124) rfl)) rfl
theorem wm_845 : (.methodLink RX8 289 yX1_value : Cond) ∈ wAll := wg (wt_4 _ (List.mem_of_getElem? (i := 125) rfl)) rfl
theorem wm_846 : (.instanceMethod yX1_value : Cond) ∈ wAll := wg (wt_4 _ (List.mem_of_getElem? (i := 126) rfl)) rfl
theorem wm_847 : (.selects RX1 yX1_value yX1_value : Cond) ∈ wAll := wg (wt_4 _ (List.mem_of_getElem? (i := 127) rfl)) rfl
theorem wm_848 : (.code yX1_value cX1_value 3 (Option.some FieldType.int) : Cond) ∈ wAll := wg (wt_4 _ (List.mem_of_getElem? (i := 128) rfl)) rfl
theorem wm_849 : (.methodLink RL 318 yX8_consistencyError : Cond) ∈ wAll := wg (wt_4 _ (List.mem_of_getElem? (i := 129) rfl)) rfl
theorem wm_850 : (.instanceMethod yX8_consistencyError : Cond) ∈ wAll := wg (wt_4 _ (List.mem_of_getElem? (i := 130) rfl)) rfl
theorem wm_851 : (.selects RX8 yX8_consistencyError yX8_consistencyError : Cond) ∈ wAll := wg (wt_4 _ (List.mem_of_getElem? (i := 131) rfl)) rfl
theorem wm_852 : (.code yX8_consistencyError cX8_consistencyError 1 (Option.some FieldType.int) : Cond) ∈ wAll := wg (wt_4 _ (List.mem_of_getElem? (i := 132) rfl)) rfl
theorem wm_853 : (.methodLink RX8 290 yX6_imbalance : Cond) ∈ wAll := wg (wt_4 _ (List.mem_of_getElem? (i := 133) rfl)) rfl
theorem wm_854 : (.instanceMethod yX6_imbalance : Cond) ∈ wAll := wg (wt_4 _ (List.mem_of_getElem? (i := 134) rfl)) rfl
theorem wm_855 : (.selects RX6 yX6_imbalance yX6_imbalance : Cond) ∈ wAll := wg (wt_4 _ (List.mem_of_getElem? (i := 135) rfl)) rfl
theorem wm_856 : (.code yX6_imbalance cX6_imbalance 3 (Option.some FieldType.int) : Cond) ∈ wAll := wg (wt_4 _ (List.mem_of_getElem? (i := 136) rfl)) rfl
theorem wm_857 : (.methodLink RX6 202 yX2_value : Cond) ∈ wAll := wg (wt_4 _ (List.mem_of_getElem? (i := 137) rfl)) rfl
theorem wm_858 : (.methodLink RX6 205 yX1_value : Cond) ∈ wAll := wg (wt_4 _ (List.mem_of_getElem? (i := 138) rfl)) rfl
theorem wm_859 : (.methodLink RX6 206 yX1_standardProfit : Cond) ∈ wAll := wg (wt_4 _ (List.mem_of_getElem? (i := 139) rfl)) rfl
theorem wm_860 : (.instanceMethod yX1_standardProfit : Cond) ∈ wAll := wg (wt_4 _ (List.mem_of_getElem? (i := 140) rfl)) rfl
theorem wm_861 : (.selects RX1 yX1_standardProfit yX1_standardProfit : Cond) ∈ wAll := wg (wt_4 _ (List.mem_of_getElem? (i := 141) rfl)) rfl
theorem wm_862 : (.code yX1_standardProfit cX1_standardProfit 3 (Option.some FieldType.int) : Cond) ∈ wAll := wg (wt_4 _ (List.mem_of_getElem? (i := 142) rfl)) rfl
theorem wm_863 : (.methodLink RX6 209 yX6_sumOfAllGaps : Cond) ∈ wAll := wg (wt_4 _ (List.mem_of_getElem? (i := 143) rfl)) rfl
theorem wm_864 : (.methodLink RX6 212 yJ9_abs_0f7a4 : Cond) ∈ wAll := wg (wt_4 _ (List.mem_of_getElem? (i := 144) rfl)) rfl
theorem wm_865 : (.static yJ9_abs_0f7a4 : Cond) ∈ wAll := wg (wt_4 _ (List.mem_of_getElem? (i := 145) rfl)) rfl
theorem wm_866 : (.code yJ9_abs_0f7a4 cJ9_abs_0f7a4 1 (Option.some FieldType.int) : Cond) ∈ wAll := wg (wt_4 _ (List.mem_of_getElem? (i := 146) rfl)) rfl
theorem wm_867 : (.methodLink RX8 293 yX0_unexplained : Cond) ∈ wAll := wg (wt_4 _ (List.mem_of_getElem? (i := 147) rfl)) rfl
theorem wm_868 : (.instanceMethod yX0_unexplained : Cond) ∈ wAll := wg (wt_4 _ (List.mem_of_getElem? (i := 148) rfl)) rfl
theorem wm_869 : (.selects RX0 yX0_unexplained yX0_unexplained : Cond) ∈ wAll := wg (wt_4 _ (List.mem_of_getElem? (i := 149) rfl)) rfl
theorem wm_870 : (.code yX0_unexplained cX0_unexplained 3 (Option.some FieldType.int) : Cond) ∈ wAll := wg (wt_4 _ (List.mem_of_getElem? (i := 150) rfl)) rfl
theorem wm_871 : (.methodLink RL 322 yX8_meanLoss : Cond) ∈ wAll := wg (wt_4 _ (List.mem_of_getElem? (i := 151) rfl)) rfl
theorem wm_872 : (.instanceMethod yX8_meanLoss : Cond) ∈ wAll := wg (wt_4 _ (List.mem_of_getElem? (i := 152) rfl)) rfl
theorem wm_873 : (.selects RX8 yX8_meanLoss yX8_meanLoss : Cond) ∈ wAll := wg (wt_4 _ (List.mem_of_getElem? (i := 153) rfl)) rfl
theorem wm_874 : (.code yX8_meanLoss cX8_meanLoss 2 (Option.some FieldType.double) : Cond) ∈ wAll := wg (wt_4 _ (List.mem_of_getElem? (i := 154) rfl)) rfl
theorem wm_875 : (.methodLink RX8 296 yX0_sumOfLosses : Cond) ∈ wAll := wg (wt_4 _ (List.mem_of_getElem? (i := 155) rfl)) rfl
theorem wm_876 : (.instanceMethod yX0_sumOfLosses : Cond) ∈ wAll := wg (wt_4 _ (List.mem_of_getElem? (i := 156) rfl)) rfl
theorem wm_877 : (.selects RX0 yX0_sumOfLosses yX0_sumOfLosses : Cond) ∈ wAll := wg (wt_4 _ (List.mem_of_getElem? (i := 157) rfl)) rfl
theorem wm_878 : (.code yX0_sumOfLosses cX0_sumOfLosses 1 (Option.some FieldType.int) : Cond) ∈ wAll := wg (wt_4 _ (List.mem_of_getElem? (i := 158) rfl)) rfl
theorem wm_879 : (.methodLink RL 327 yX8_burntShare : Cond) ∈ wAll := wg (wt_4 _ (List.mem_of_getElem? (i := 159) rfl)) rfl
theorem wm_880 : (.instanceMethod yX8_burntShare : Cond) ∈ wAll := wg (wt_4 _ (List.mem_of_getElem? (i := 160) rfl)) rfl
theorem wm_881 : (.selects RX8 yX8_burntShare yX8_burntShare : Cond) ∈ wAll := wg (wt_4 _ (List.mem_of_getElem? (i := 161) rfl)) rfl
theorem wm_882 : (.code yX8_burntShare cX8_burntShare 2 (Option.some FieldType.float) : Cond) ∈ wAll := wg (wt_4 _ (List.mem_of_getElem? (i := 162) rfl)) rfl
theorem wm_883 : (.methodLink RX8 299 yX0_sumOfPlanned : Cond) ∈ wAll := wg (wt_4 _ (List.mem_of_getElem? (i := 163) rfl)) rfl
theorem wm_884 : (.instanceMethod yX0_sumOfPlanned : Cond) ∈ wAll := wg (wt_4 _ (List.mem_of_getElem? (i := 164) rfl)) rfl
theorem wm_885 : (.selects RX0 yX0_sumOfPlanned yX0_sumOfPlanned : Cond) ∈ wAll := wg (wt_4 _ (List.mem_of_getElem? (i := 165) rfl)) rfl
theorem wm_886 : (.code yX0_sumOfPlanned cX0_sumOfPlanned 1 (Option.some FieldType.int) : Cond) ∈ wAll := wg (wt_4 _ (List.mem_of_getElem? (i := 166) rfl)) rfl
theorem wm_887 : (.methodLink RX8 302 yX0_sumOfBurnt : Cond) ∈ wAll := wg (wt_4 _ (List.mem_of_getElem? (i := 167) rfl)) rfl
theorem wm_888 : (.instanceMethod yX0_sumOfBurnt : Cond) ∈ wAll := wg (wt_4 _ (List.mem_of_getElem? (i := 168) rfl)) rfl
theorem wm_889 : (.selects RX0 yX0_sumOfBurnt yX0_sumOfBurnt : Cond) ∈ wAll := wg (wt_4 _ (List.mem_of_getElem? (i := 169) rfl)) rfl
theorem wm_890 : (.code yX0_sumOfBurnt cX0_sumOfBurnt 1 (Option.some FieldType.int) : Cond) ∈ wAll := wg (wt_4 _ (List.mem_of_getElem? (i := 170) rfl)) rfl
theorem wm_891 : (.methodLink RL 368 yX8_outputByte : Cond) ∈ wAll := wg (wt_4 _ (List.mem_of_getElem? (i := 171) rfl)) rfl
theorem wm_892 : (.instanceMethod yX8_outputByte : Cond) ∈ wAll := wg (wt_4 _ (List.mem_of_getElem? (i := 172) rfl)) rfl
theorem wm_893 : (.selects RX8 yX8_outputByte yX8_outputByte : Cond) ∈ wAll := wg (wt_4 _ (List.mem_of_getElem? (i := 173) rfl)) rfl
theorem wm_894 : (.code yX8_outputByte cX8_outputByte 2 (Option.some FieldType.int) : Cond) ∈ wAll := wg (wt_4 _ (List.mem_of_getElem? (i := 174) rfl)) rfl
theorem wm_895 : (.methodLink RX8 345 yJ4_length_8abf5 : Cond) ∈ wAll := wg (wt_4 _ (List.mem_of_getElem? (i := 175) rfl)) rfl
theorem wm_896 : (.instanceMethod yJ4_length_8abf5 : Cond) ∈ wAll := wg (wt_4 _ (List.mem_of_getElem? (i := 176) rfl)) rfl
theorem wm_897 : (.selects RJ4 yJ4_length_8abf5 yJ4_length_8abf5 : Cond) ∈ wAll := wg (wt_4 _ (List.mem_of_getElem? (i := 177) rfl)) rfl
theorem wm_898 : (.code yJ4_length_8abf5 cJ4_length_8abf5 1 (Option.some FieldType.int) : Cond) ∈ wAll := wg (wt_4 _ (List.mem_of_getElem? (i := 178) rfl)) rfl
theorem wm_899 : (.methodLink RJ4 343 yJ5_length_8abf5 : Cond) ∈ wAll := wg (wt_4 _ (List.mem_of_getElem? (i := 179) rfl)) rfl
theorem wm_900 : (.instanceMethod yJ5_length_8abf5 : Cond) ∈ wAll := wg (wt_4 _ (List.mem_of_getElem? (i := 180) rfl)) rfl
theorem wm_901 : (.code yJ5_length_8abf5 cJ5_length_8abf5 1 (Option.some FieldType.int) : Cond) ∈ wAll := wg (wt_4 _ (List.mem_of_getElem? (i := 181) rfl)) rfl
theorem wm_902 : (.methodLink RX8 346 yJ4_charAt_5068e : Cond) ∈ wAll := wg (wt_4 _ (List.mem_of_getElem? (i := 182) rfl)) rfl
theorem wm_903 : (.instanceMethod yJ4_charAt_5068e : Cond) ∈ wAll := wg (wt_4 _ (List.mem_of_getElem? (i := 183) rfl)) rfl
theorem wm_904 : (.selects RJ4 yJ4_charAt_5068e yJ4_charAt_5068e : Cond) ∈ wAll := wg (wt_4 _ (List.mem_of_getElem? (i := 184) rfl)) rfl
theorem wm_905 : (.code yJ4_charAt_5068e cJ4_charAt_5068e 2 (Option.some FieldType.char) : Cond) ∈ wAll := wg (wt_4 _ (List.mem_of_getElem? (i := 185) rfl)) rfl
theorem wm_906 : (.methodLink RJ4 329 yJ5_charAt_5068e : Cond) ∈ wAll := wg (wt_4 _ (List.mem_of_getElem? (i := 186) rfl)) rfl
theorem wm_907 : (.instanceMethod yJ5_charAt_5068e : Cond) ∈ wAll := wg (wt_4 _ (List.mem_of_getElem? (i := 187) rfl)) rfl
theorem wm_908 : (.code yJ5_charAt_5068e cJ5_charAt_5068e 5 (Option.some FieldType.char) : Cond) ∈ wAll := wg (wt_4 _ (List.mem_of_getElem? (i := 188) rfl)) rfl
theorem wm_909 : (.methodLink RJ5 138 yJ9_min_7cf53 : Cond) ∈ wAll := wg (wt_4 _ (List.mem_of_getElem? (i := 189) rfl)) rfl
theorem wm_910 : (.methodLink RJ5 144 yJ0_checkIndex_df160 : Cond) ∈ wAll := wg (wt_4 _ (List.mem_of_getElem? (i := 190) rfl)) rfl
theorem wm_911 : (.methodLink RJ5 148 yJ2_getChar_3b067 : Cond) ∈ wAll := wg (wt_4 _ (List.mem_of_getElem? (i := 191) rfl)) rfl
theorem wm_912 : (.methodLink RL 177 yL_flourPrice : Cond) ∈ wAll := wg (wt_4 _ (List.mem_of_getElem? (i := 192) rfl)) rfl
theorem wm_913 : (.static yL_flourPrice : Cond) ∈ wAll := wg (wt_4 _ (List.mem_of_getElem? (i := 193) rfl)) rfl
theorem wm_914 : (.codeWith yL_flourPrice method_3_code 4 (Option.some FieldType.int) [(0, 9, 12, 13)] : Cond) ∈ wAll := wg (wt_4 _ (List.mem_of_getElem? (i := 194) rfl)) rfl
theorem wm_915 : (.classLink RL 13 "java/lang/IndexOutOfBoundsException" : Cond) ∈ wAll := wg (wt_4 _ (List.mem_of_getElem? (i := 195) rfl)) rfl
theorem wm_916 : (.methodLink RL 7 yX8_flourPrice : Cond) ∈ wAll := wg (wt_4 _ (List.mem_of_getElem? (i := 196) rfl)) rfl
theorem wm_917 : (.instanceMethod yX8_flourPrice : Cond) ∈ wAll := wg (wt_4 _ (List.mem_of_getElem? (i := 197) rfl)) rfl
theorem wm_918 : (.selects RX8 yX8_flourPrice yX8_flourPrice : Cond) ∈ wAll := wg (wt_4 _ (List.mem_of_getElem? (i := 198) rfl)) rfl
theorem wm_919 : (.code yX8_flourPrice cX8_flourPrice 2 (Option.some FieldType.int) : Cond) ∈ wAll := wg (wt_4 _ (List.mem_of_getElem? (i := 199) rfl)) rfl
theorem wm_920 : (.methodLink RX8 132 yX8_requireFlour : Cond) ∈ wAll := wg (wt_4 _ (List.mem_of_getElem? (i := 200) rfl)) rfl
theorem wm_922 : (.instanceMethod yX8_requireFlour : Cond) ∈ wAll := wg (wt_4 _ (List.mem_of_getElem? (i := 202) rfl)) rfl
theorem wm_923 : (.code yX8_requireFlour cX8_requireFlour 2 (Option.none : Option FieldType) : Cond) ∈ wAll := wg (wt_4 _ (List.mem_of_getElem? (i := 203) rfl)) rfl
theorem wm_924 : (.methodLink RX8 188 yX8_requireIndex : Cond) ∈ wAll := wg (wt_4 _ (List.mem_of_getElem? (i := 204) rfl)) rfl
theorem wm_925 : (.static yX8_requireIndex : Cond) ∈ wAll := wg (wt_4 _ (List.mem_of_getElem? (i := 205) rfl)) rfl
theorem wm_926 : (.code yX8_requireIndex cX8_requireIndex 2 (Option.none : Option FieldType) : Cond) ∈ wAll := wg (wt_4 _ (List.mem_of_getElem? (i := 206) rfl)) rfl
theorem wm_927 : (.classLink RX8 347 "java/lang/IndexOutOfBoundsException" : Cond) ∈ wAll := wg (wt_4 _ (List.mem_of_getElem? (i := 207) rfl)) rfl
theorem wm_928 : (.instantiable "java/lang/IndexOutOfBoundsException" 6 : Cond) ∈ wAll := wg (wt_4 _ (List.mem_of_getElem? (i := 208) rfl)) rfl
theorem wm_936 : (.selects "java/lang/IndexOutOfBoundsException" ⟨"java/lang/Throwable", "fillInStackTrace", "(I)Ljava/lang/Throwable;"⟩ ⟨"java/lang/Throwable", "fillInStackTrace", "(I)Ljava/lang/Throwable;"⟩ : Cond) ∈ wAll := wg (wt_4 _ (List.mem_of_getElem? (i := 216) rfl)) rfl
theorem wm_937 : (.selects "java/lang/IndexOutOfBoundsException" ⟨"java/lang/Throwable", "fillInStackTrace", "()Ljava/lang/Throwable;"⟩ ⟨"java/lang/Throwable", "fillInStackTrace", "()Ljava/lang/Throwable;"⟩ : Cond) ∈ wAll := wg (wt_4 _ (List.mem_of_getElem? (i := 217) rfl)) rfl
theorem wm_938 : (.lays "java/lang/IndexOutOfBoundsException" "java/lang/Throwable" "cause" "Ljava/lang/Throwable;" : Cond) ∈ wAll := wg (wt_4 _ (List.mem_of_getElem? (i := 218) rfl)) rfl
theorem wm_939 : (.lays "java/lang/Throwable" "java/lang/Throwable" "cause" "Ljava/lang/Throwable;" : Cond) ∈ wAll := wg (wt_4 _ (List.mem_of_getElem? (i := 219) rfl)) rfl
theorem wm_940 : (.lays "java/lang/IndexOutOfBoundsException" "java/lang/Throwable" "stackTrace" "[Ljava/lang/StackTraceElement;" : Cond) ∈ wAll := wg (wt_4 _ (List.mem_of_getElem? (i := 220) rfl)) rfl
theorem wm_941 : (.lays "java/lang/Throwable" "java/lang/Throwable" "stackTrace" "[Ljava/lang/StackTraceElement;" : Cond) ∈ wAll := wg (wt_4 _ (List.mem_of_getElem? (i := 221) rfl)) rfl
theorem wm_942 : (.lays "java/lang/IndexOutOfBoundsException" "java/lang/Throwable" "suppressedExceptions" "Ljava/util/List;" : Cond) ∈ wAll := wg (wt_4 _ (List.mem_of_getElem? (i := 222) rfl)) rfl
theorem wm_943 : (.lays "java/lang/Throwable" "java/lang/Throwable" "suppressedExceptions" "Ljava/util/List;" : Cond) ∈ wAll := wg (wt_4 _ (List.mem_of_getElem? (i := 223) rfl)) rfl
theorem wm_944 : (.lays "java/lang/IndexOutOfBoundsException" "java/lang/Throwable" "detailMessage" "Ljava/lang/String;" : Cond) ∈ wAll := wg (wt_4 _ (List.mem_of_getElem? (i := 224) rfl)) rfl
theorem wm_945 : (.lays "java/lang/Throwable" "java/lang/Throwable" "detailMessage" "Ljava/lang/String;" : Cond) ∈ wAll := wg (wt_4 _ (List.mem_of_getElem? (i := 225) rfl)) rfl
theorem wm_946 : (.lays "java/lang/IndexOutOfBoundsException" "java/lang/Throwable" "backtrace" "Ljava/lang/Object;" : Cond) ∈ wAll := wg (wt_4 _ (List.mem_of_getElem? (i := 226) rfl)) rfl
theorem wm_947 : (.lays "java/lang/Throwable" "java/lang/Throwable" "backtrace" "Ljava/lang/Object;" : Cond) ∈ wAll := wg (wt_4 _ (List.mem_of_getElem? (i := 227) rfl)) rfl
theorem wm_948 : (.fieldLink "java/lang/Throwable" 198 "java/lang/Throwable" "backtrace" "Ljava/lang/Object;" : Cond) ∈ wAll := wg (wt_4 _ (List.mem_of_getElem? (i := 228) rfl)) rfl
theorem wm_949 : (.superclass "java/lang/Throwable" "java/lang/Object" : Cond) ∈ wAll := wg (wt_4 _ (List.mem_of_getElem? (i := 229) rfl)) rfl
theorem wm_950 : (.instanceMethod ⟨"java/lang/Throwable", "<init>", "()V"⟩ : Cond) ∈ wAll := wg (wt_4 _ (List.mem_of_getElem? (i := 230) rfl)) rfl
theorem wm_951 : (.code ⟨"java/lang/Throwable", "<init>", "()V"⟩ prog_33_method_1_code 1 (Option.none : Option FieldType) : Cond) ∈ wAll := wg (wt_4 _ (List.mem_of_getElem? (i := 231) rfl)) rfl
theorem wm_952 : (.methodLink "java/lang/Throwable" 1 ⟨"java/lang/Object", "<init>", "()V"⟩ : Cond) ∈ wAll := wg (wt_4 _ (List.mem_of_getElem? (i := 232) rfl)) rfl
theorem wm_953 : (.fieldLink "java/lang/Throwable" 13 "java/lang/Throwable" "UNASSIGNED_STACK" "[Ljava/lang/StackTraceElement;" : Cond) ∈ wAll := wg (wt_4 _ (List.mem_of_getElem? (i := 233) rfl)) rfl
theorem wm_955 : (.fieldLink "java/lang/Throwable" 20 "java/lang/Throwable" "SUPPRESSED_SENTINEL" "Ljava/util/List;" : Cond) ∈ wAll := wg (wt_4 _ (List.mem_of_getElem? (i := 235) rfl)) rfl
theorem wm_957 : (.methodLink "java/lang/Throwable" 27 ⟨"java/lang/Throwable", "fillInStackTrace", "()Ljava/lang/Throwable;"⟩ : Cond) ∈ wAll := wg (wt_4 _ (List.mem_of_getElem? (i := 237) rfl)) rfl
theorem wm_958 : (.instanceMethod ⟨"java/lang/Throwable", "fillInStackTrace", "()Ljava/lang/Throwable;"⟩ : Cond) ∈ wAll := wg (wt_4 _ (List.mem_of_getElem? (i := 238) rfl)) rfl
theorem wm_959 : (.sameMethod "java/lang/Throwable" "java/lang/Throwable" "fillInStackTrace" "()Ljava/lang/Throwable;" : Cond) ∈ wAll := wg (wt_4 _ (List.mem_of_getElem? (i := 239) rfl)) rfl
theorem wm_960 : (.selects RJx00060 ⟨"java/lang/Throwable", "fillInStackTrace", "()Ljava/lang/Throwable;"⟩ ⟨"java/lang/Throwable", "fillInStackTrace", "()Ljava/lang/Throwable;"⟩ : Cond) ∈ wAll := wg (wt_5 _ (List.mem_of_getElem? (i := 0) rfl)) rfl
theorem wm_961 : (.selects "java/lang/IllegalArgumentException" ⟨"java/lang/Throwable", "fillInStackTrace", "()Ljava/lang/Throwable;"⟩ ⟨"java/lang/Throwable", "fillInStackTrace", "()Ljava/lang/Throwable;"⟩ : Cond) ∈ wAll := wg (wt_5 _ (List.mem_of_getElem? (i := 1) rfl)) rfl
theorem wm_962 : (.selects "java/lang/IllegalStateException" ⟨"java/lang/Throwable", "fillInStackTrace", "()Ljava/lang/Throwable;"⟩ ⟨"java/lang/Throwable", "fillInStackTrace", "()Ljava/lang/Throwable;"⟩ : Cond) ∈ wAll := wg (wt_5 _ (List.mem_of_getElem? (i := 2) rfl)) rfl
theorem wm_963 : (.selects RJx7c733 ⟨"java/lang/Throwable", "fillInStackTrace", "()Ljava/lang/Throwable;"⟩ ⟨"java/lang/Throwable", "fillInStackTrace", "()Ljava/lang/Throwable;"⟩ : Cond) ∈ wAll := wg (wt_5 _ (List.mem_of_getElem? (i := 3) rfl)) rfl
theorem wm_964 : (.selects "java/util/NoSuchElementException" ⟨"java/lang/Throwable", "fillInStackTrace", "()Ljava/lang/Throwable;"⟩ ⟨"java/lang/Throwable", "fillInStackTrace", "()Ljava/lang/Throwable;"⟩ : Cond) ∈ wAll := wg (wt_5 _ (List.mem_of_getElem? (i := 4) rfl)) rfl
theorem wm_965 : (.codeSync ⟨"java/lang/Throwable", "fillInStackTrace", "()Ljava/lang/Throwable;"⟩ prog_33_method_18_code 1 (Option.some (FieldType.object "java/lang/Throwable")) : Cond) ∈ wAll := wg (wt_5 _ (List.mem_of_getElem? (i := 5) rfl)) rfl
theorem wm_966 : (.methodLink "java/lang/Throwable" 202 ⟨"java/lang/Throwable", "fillInStackTrace", "(I)Ljava/lang/Throwable;"⟩ : Cond) ∈ wAll := wg (wt_5 _ (List.mem_of_getElem? (i := 6) rfl)) rfl
theorem wm_968 : (.instanceMethod ⟨"java/lang/Throwable", "fillInStackTrace", "(I)Ljava/lang/Throwable;"⟩ : Cond) ∈ wAll := wg (wt_5 _ (List.mem_of_getElem? (i := 8) rfl)) rfl
theorem wm_969 : (.instantiable "java/lang/Throwable" 6 : Cond) ∈ wAll := wg (wt_5 _ (List.mem_of_getElem? (i := 9) rfl)) rfl
theorem wm_970 : (.native ⟨"java/lang/Throwable", "fillInStackTrace", "(I)Ljava/lang/Throwable;"⟩ : Cond) ∈ wAll := wg (wt_5 _ (List.mem_of_getElem? (i := 10) rfl)) rfl
theorem wm_972 : (.methodLink RX8 351 ⟨"java/lang/IndexOutOfBoundsException", "<init>", "(Ljava/lang/String;)V"⟩ : Cond) ∈ wAll := wg (wt_5 _ (List.mem_of_getElem? (i := 12) rfl)) rfl
theorem wm_973 : (.instanceMethod ⟨"java/lang/IndexOutOfBoundsException", "<init>", "(Ljava/lang/String;)V"⟩ : Cond) ∈ wAll := wg (wt_5 _ (List.mem_of_getElem? (i := 13) rfl)) rfl
theorem wm_974 : (.code ⟨"java/lang/IndexOutOfBoundsException", "<init>", "(Ljava/lang/String;)V"⟩ prog_22_method_2_code 2 (Option.none : Option FieldType) : Cond) ∈ wAll := wg (wt_5 _ (List.mem_of_getElem? (i := 14) rfl)) rfl
theorem wm_975 : (.methodLink "java/lang/IndexOutOfBoundsException" 7 ⟨"java/lang/RuntimeException", "<init>", "(Ljava/lang/String;)V"⟩ : Cond) ∈ wAll := wg (wt_5 _ (List.mem_of_getElem? (i := 15) rfl)) rfl
theorem wm_976 : (.instanceMethod ⟨"java/lang/RuntimeException", "<init>", "(Ljava/lang/String;)V"⟩ : Cond) ∈ wAll := wg (wt_5 _ (List.mem_of_getElem? (i := 16) rfl)) rfl
theorem wm_977 : (.code ⟨"java/lang/RuntimeException", "<init>", "(Ljava/lang/String;)V"⟩ prog_26_method_2_code 2 (Option.none : Option FieldType) : Cond) ∈ wAll := wg (wt_5 _ (List.mem_of_getElem? (i := 17) rfl)) rfl
theorem wm_978 : (.methodLink "java/lang/RuntimeException" 7 ⟨"java/lang/Exception", "<init>", "(Ljava/lang/String;)V"⟩ : Cond) ∈ wAll := wg (wt_5 _ (List.mem_of_getElem? (i := 18) rfl)) rfl
theorem wm_979 : (.instanceMethod ⟨"java/lang/Exception", "<init>", "(Ljava/lang/String;)V"⟩ : Cond) ∈ wAll := wg (wt_5 _ (List.mem_of_getElem? (i := 19) rfl)) rfl
theorem wm_980 : (.code ⟨"java/lang/Exception", "<init>", "(Ljava/lang/String;)V"⟩ prog_19_method_2_code 2 (Option.none : Option FieldType) : Cond) ∈ wAll := wg (wt_5 _ (List.mem_of_getElem? (i := 20) rfl)) rfl
theorem wm_981 : (.methodLink "java/lang/Exception" 7 ⟨"java/lang/Throwable", "<init>", "(Ljava/lang/String;)V"⟩ : Cond) ∈ wAll := wg (wt_5 _ (List.mem_of_getElem? (i := 21) rfl)) rfl
theorem wm_982 : (.instanceMethod ⟨"java/lang/Throwable", "<init>", "(Ljava/lang/String;)V"⟩ : Cond) ∈ wAll := wg (wt_5 _ (List.mem_of_getElem? (i := 22) rfl)) rfl
theorem wm_983 : (.code ⟨"java/lang/Throwable", "<init>", "(Ljava/lang/String;)V"⟩ prog_33_method_2_code 2 (Option.none : Option FieldType) : Cond) ∈ wAll := wg (wt_5 _ (List.mem_of_getElem? (i := 23) rfl)) rfl
theorem wm_985 : (.fieldLink "java/lang/Throwable" 31 "java/lang/Throwable" "detailMessage" "Ljava/lang/String;" : Cond) ∈ wAll := wg (wt_5 _ (List.mem_of_getElem? (i := 25) rfl)) rfl
theorem wm_986 : (.fieldLink "java/lang/Throwable" 7 "java/lang/Throwable" "cause" "Ljava/lang/Throwable;" : Cond) ∈ wAll := wg (wt_5 _ (List.mem_of_getElem? (i := 26) rfl)) rfl
theorem wm_987 : (.fieldLink "java/lang/Throwable" 17 "java/lang/Throwable" "stackTrace" "[Ljava/lang/StackTraceElement;" : Cond) ∈ wAll := wg (wt_5 _ (List.mem_of_getElem? (i := 27) rfl)) rfl
theorem wm_988 : (.fieldLink "java/lang/Throwable" 24 "java/lang/Throwable" "suppressedExceptions" "Ljava/util/List;" : Cond) ∈ wAll := wg (wt_5 _ (List.mem_of_getElem? (i := 28) rfl)) rfl
theorem wm_993 : (.lays "java/lang/IndexOutOfBoundsException" "java/lang/Throwable" "depth" "I" : Cond) ∈ wAll := wg (wt_5 _ (List.mem_of_getElem? (i := 33) rfl)) rfl
theorem wm_996 : (.superclass "java/lang/IndexOutOfBoundsException" "java/lang/RuntimeException" : Cond) ∈ wAll := wg (wt_5 _ (List.mem_of_getElem? (i := 36) rfl)) rfl
theorem wm_997 : (.methodLink RL 186 yL_unitsOf : Cond) ∈ wAll := wg (wt_5 _ (List.mem_of_getElem? (i := 37) rfl)) rfl
theorem wm_998 : (.static yL_unitsOf : Cond) ∈ wAll := wg (wt_5 _ (List.mem_of_getElem? (i := 38) rfl)) rfl
theorem wm_999 : (.codeWith yL_unitsOf method_4_code 4 (Option.some FieldType.int) [(0, 9, 12, 13)] : Cond) ∈ wAll := wg (wt_5 _ (List.mem_of_getElem? (i := 39) rfl)) rfl
theorem wm_1000 : (.methodLink RL 15 yX8_unitsOf : Cond) ∈ wAll := wg (wt_5 _ (List.mem_of_getElem? (i := 40) rfl)) rfl
theorem wm_1001 : (.instanceMethod yX8_unitsOf : Cond) ∈ wAll := wg (wt_5 _ (List.mem_of_getElem? (i := 41) rfl)) rfl
theorem wm_1002 : (.selects RX8 yX8_unitsOf yX8_unitsOf : Cond) ∈ wAll := wg (wt_5 _ (List.mem_of_getElem? (i := 42) rfl)) rfl
theorem wm_1003 : (.code yX8_unitsOf cX8_unitsOf 2 (Option.some FieldType.int) : Cond) ∈ wAll := wg (wt_5 _ (List.mem_of_getElem? (i := 43) rfl)) rfl
theorem wm_1004 : (.methodLink RX8 139 yX2_stock : Cond) ∈ wAll := wg (wt_5 _ (List.mem_of_getElem? (i := 44) rfl)) rfl
theorem wm_1005 : (.methodLink RL 189 yL_lotsOf : Cond) ∈ wAll := wg (wt_5 _ (List.mem_of_getElem? (i := 45) rfl)) rfl
theorem wm_1006 : (.static yL_lotsOf : Cond) ∈ wAll := wg (wt_5 _ (List.mem_of_getElem? (i := 46) rfl)) rfl
theorem wm_1007 : (.codeWith yL_lotsOf method_5_code 4 (Option.some FieldType.int) [(0, 9, 12, 13)] : Cond) ∈ wAll := wg (wt_5 _ (List.mem_of_getElem? (i := 47) rfl)) rfl
theorem wm_1008 : (.methodLink RL 18 yX8_lotsOf : Cond) ∈ wAll := wg (wt_5 _ (List.mem_of_getElem? (i := 48) rfl)) rfl
theorem wm_1009 : (.instanceMethod yX8_lotsOf : Cond) ∈ wAll := wg (wt_5 _ (List.mem_of_getElem? (i := 49) rfl)) rfl
theorem wm_1010 : (.selects RX8 yX8_lotsOf yX8_lotsOf : Cond) ∈ wAll := wg (wt_5 _ (List.mem_of_getElem? (i := 50) rfl)) rfl
theorem wm_1011 : (.code yX8_lotsOf cX8_lotsOf 2 (Option.some FieldType.int) : Cond) ∈ wAll := wg (wt_5 _ (List.mem_of_getElem? (i := 51) rfl)) rfl
theorem wm_1012 : (.methodLink RL 192 yL_lotUnits : Cond) ∈ wAll := wg (wt_5 _ (List.mem_of_getElem? (i := 52) rfl)) rfl
theorem wm_1013 : (.static yL_lotUnits : Cond) ∈ wAll := wg (wt_5 _ (List.mem_of_getElem? (i := 53) rfl)) rfl
theorem wm_1014 : (.codeWith yL_lotUnits method_6_code 5 (Option.some FieldType.int) [(0, 10, 13, 13)] : Cond) ∈ wAll := wg (wt_5 _ (List.mem_of_getElem? (i := 54) rfl)) rfl
theorem wm_1015 : (.methodLink RL 21 yX8_lotUnits : Cond) ∈ wAll := wg (wt_5 _ (List.mem_of_getElem? (i := 55) rfl)) rfl
theorem wm_1016 : (.instanceMethod yX8_lotUnits : Cond) ∈ wAll := wg (wt_5 _ (List.mem_of_getElem? (i := 56) rfl)) rfl
theorem wm_1017 : (.selects RX8 yX8_lotUnits yX8_lotUnits : Cond) ∈ wAll := wg (wt_5 _ (List.mem_of_getElem? (i := 57) rfl)) rfl
theorem wm_1018 : (.code yX8_lotUnits cX8_lotUnits 3 (Option.some FieldType.int) : Cond) ∈ wAll := wg (wt_5 _ (List.mem_of_getElem? (i := 58) rfl)) rfl
theorem wm_1019 : (.methodLink RX8 145 yX8_requireLot : Cond) ∈ wAll := wg (wt_5 _ (List.mem_of_getElem? (i := 59) rfl)) rfl
theorem wm_1021 : (.instanceMethod yX8_requireLot : Cond) ∈ wAll := wg (wt_5 _ (List.mem_of_getElem? (i := 61) rfl)) rfl
theorem wm_1022 : (.code yX8_requireLot cX8_requireLot 3 (Option.none : Option FieldType) : Cond) ∈ wAll := wg (wt_5 _ (List.mem_of_getElem? (i := 62) rfl)) rfl
theorem wm_1023 : (.methodLink RL 196 yL_lotPrice : Cond) ∈ wAll := wg (wt_5 _ (List.mem_of_getElem? (i := 63) rfl)) rfl
theorem wm_1024 : (.static yL_lotPrice : Cond) ∈ wAll := wg (wt_5 _ (List.mem_of_getElem? (i := 64) rfl)) rfl
theorem wm_1025 : (.codeWith yL_lotPrice method_7_code 5 (Option.some FieldType.int) [(0, 10, 13, 13)] : Cond) ∈ wAll := wg (wt_5 _ (List.mem_of_getElem? (i := 65) rfl)) rfl
theorem wm_1026 : (.methodLink RL 25 yX8_lotPrice : Cond) ∈ wAll := wg (wt_5 _ (List.mem_of_getElem? (i := 66) rfl)) rfl
theorem wm_1027 : (.instanceMethod yX8_lotPrice : Cond) ∈ wAll := wg (wt_5 _ (List.mem_of_getElem? (i := 67) rfl)) rfl
theorem wm_1028 : (.selects RX8 yX8_lotPrice yX8_lotPrice : Cond) ∈ wAll := wg (wt_5 _ (List.mem_of_getElem? (i := 68) rfl)) rfl
theorem wm_1029 : (.code yX8_lotPrice cX8_lotPrice 3 (Option.some FieldType.int) : Cond) ∈ wAll := wg (wt_5 _ (List.mem_of_getElem? (i := 69) rfl)) rfl
theorem wm_1030 : (.methodLink RL 203 yL_listPrice : Cond) ∈ wAll := wg (wt_5 _ (List.mem_of_getElem? (i := 70) rfl)) rfl
theorem wm_1031 : (.static yL_listPrice : Cond) ∈ wAll := wg (wt_5 _ (List.mem_of_getElem? (i := 71) rfl)) rfl
theorem wm_1032 : (.codeWith yL_listPrice method_8_code 4 (Option.some FieldType.int) [(0, 9, 12, 13)] : Cond) ∈ wAll := wg (wt_5 _ (List.mem_of_getElem? (i := 72) rfl)) rfl
theorem wm_1033 : (.methodLink RL 28 yX8_listPrice : Cond) ∈ wAll := wg (wt_5 _ (List.mem_of_getElem? (i := 73) rfl)) rfl
theorem wm_1034 : (.instanceMethod yX8_listPrice : Cond) ∈ wAll := wg (wt_5 _ (List.mem_of_getElem? (i := 74) rfl)) rfl
theorem wm_1035 : (.selects RX8 yX8_listPrice yX8_listPrice : Cond) ∈ wAll := wg (wt_5 _ (List.mem_of_getElem? (i := 75) rfl)) rfl
theorem wm_1036 : (.code yX8_listPrice cX8_listPrice 2 (Option.some FieldType.int) : Cond) ∈ wAll := wg (wt_5 _ (List.mem_of_getElem? (i := 76) rfl)) rfl
theorem wm_1037 : (.methodLink RX8 163 yX8_requireBread : Cond) ∈ wAll := wg (wt_5 _ (List.mem_of_getElem? (i := 77) rfl)) rfl
theorem wm_1039 : (.instanceMethod yX8_requireBread : Cond) ∈ wAll := wg (wt_5 _ (List.mem_of_getElem? (i := 79) rfl)) rfl
theorem wm_1040 : (.code yX8_requireBread cX8_requireBread 2 (Option.none : Option FieldType) : Cond) ∈ wAll := wg (wt_5 _ (List.mem_of_getElem? (i := 80) rfl)) rfl
theorem wm_1041 : (.methodLink RL 206 yL_minutesOf : Cond) ∈ wAll := wg (wt_5 _ (List.mem_of_getElem? (i := 81) rfl)) rfl
theorem wm_1042 : (.static yL_minutesOf : Cond) ∈ wAll := wg (wt_5 _ (List.mem_of_getElem? (i := 82) rfl)) rfl
theorem wm_1043 : (.codeWith yL_minutesOf method_9_code 4 (Option.some FieldType.int) [(0, 9, 12, 13)] : Cond) ∈ wAll := wg (wt_5 _ (List.mem_of_getElem? (i := 83) rfl)) rfl
theorem wm_1044 : (.methodLink RL 31 yX8_minutesOf : Cond) ∈ wAll := wg (wt_5 _ (List.mem_of_getElem? (i := 84) rfl)) rfl
theorem wm_1045 : (.instanceMethod yX8_minutesOf : Cond) ∈ wAll := wg (wt_5 _ (List.mem_of_getElem? (i := 85) rfl)) rfl
theorem wm_1046 : (.selects RX8 yX8_minutesOf yX8_minutesOf : Cond) ∈ wAll := wg (wt_5 _ (List.mem_of_getElem? (i := 86) rfl)) rfl
theorem wm_1047 : (.code yX8_minutesOf cX8_minutesOf 2 (Option.some FieldType.int) : Cond) ∈ wAll := wg (wt_5 _ (List.mem_of_getElem? (i := 87) rfl)) rfl
theorem wm_1048 : (.methodLink RL 209 yL_amountOf : Cond) ∈ wAll := wg (wt_5 _ (List.mem_of_getElem? (i := 88) rfl)) rfl
theorem wm_1049 : (.static yL_amountOf : Cond) ∈ wAll := wg (wt_5 _ (List.mem_of_getElem? (i := 89) rfl)) rfl
theorem wm_1050 : (.codeWith yL_amountOf method_10_code 5 (Option.some FieldType.int) [(0, 10, 13, 13)] : Cond) ∈ wAll := wg (wt_5 _ (List.mem_of_getElem? (i := 90) rfl)) rfl
theorem wm_1051 : (.methodLink RL 34 yX8_amountOf : Cond) ∈ wAll := wg (wt_5 _ (List.mem_of_getElem? (i := 91) rfl)) rfl
theorem wm_1052 : (.instanceMethod yX8_amountOf : Cond) ∈ wAll := wg (wt_5 _ (List.mem_of_getElem? (i := 92) rfl)) rfl
theorem wm_1053 : (.selects RX8 yX8_amountOf yX8_amountOf : Cond) ∈ wAll := wg (wt_5 _ (List.mem_of_getElem? (i := 93) rfl)) rfl
theorem wm_1054 : (.code yX8_amountOf cX8_amountOf 3 (Option.some FieldType.int) : Cond) ∈ wAll := wg (wt_5 _ (List.mem_of_getElem? (i := 94) rfl)) rfl
theorem wm_1055 : (.methodLink RL 212 yL_standardCost : Cond) ∈ wAll := wg (wt_5 _ (List.mem_of_getElem? (i := 95) rfl)) rfl
theorem wm_1056 : (.static yL_standardCost : Cond) ∈ wAll := wg (wt_5 _ (List.mem_of_getElem? (i := 96) rfl)) rfl
theorem wm_1057 : (.codeWith yL_standardCost method_11_code 4 (Option.some FieldType.int) [(0, 9, 12, 13)] : Cond) ∈ wAll := wg (wt_5 _ (List.mem_of_getElem? (i := 97) rfl)) rfl
theorem wm_1058 : (.methodLink RL 37 yX8_standardCost : Cond) ∈ wAll := wg (wt_5 _ (List.mem_of_getElem? (i := 98) rfl)) rfl
theorem wm_1059 : (.instanceMethod yX8_standardCost : Cond) ∈ wAll := wg (wt_5 _ (List.mem_of_getElem? (i := 99) rfl)) rfl
theorem wm_1060 : (.selects RX8 yX8_standardCost yX8_standardCost : Cond) ∈ wAll := wg (wt_5 _ (List.mem_of_getElem? (i := 100) rfl)) rfl
theorem wm_1061 : (.code yX8_standardCost cX8_standardCost 2 (Option.some FieldType.int) : Cond) ∈ wAll := wg (wt_5 _ (List.mem_of_getElem? (i := 101) rfl)) rfl
theorem wm_1062 : (.methodLink RL 215 yL_loavesOf : Cond) ∈ wAll := wg (wt_5 _ (List.mem_of_getElem? (i := 102) rfl)) rfl
theorem wm_1063 : (.static yL_loavesOf : Cond) ∈ wAll := wg (wt_5 _ (List.mem_of_getElem? (i := 103) rfl)) rfl
theorem wm_1064 : (.codeWith yL_loavesOf method_12_code 4 (Option.some FieldType.int) [(0, 9, 12, 13)] : Cond) ∈ wAll := wg (wt_5 _ (List.mem_of_getElem? (i := 104) rfl)) rfl
theorem wm_1065 : (.methodLink RL 40 yX8_loavesOf : Cond) ∈ wAll := wg (wt_5 _ (List.mem_of_getElem? (i := 105) rfl)) rfl
theorem wm_1066 : (.instanceMethod yX8_loavesOf : Cond) ∈ wAll := wg (wt_5 _ (List.mem_of_getElem? (i := 106) rfl)) rfl
theorem wm_1067 : (.selects RX8 yX8_loavesOf yX8_loavesOf : Cond) ∈ wAll := wg (wt_5 _ (List.mem_of_getElem? (i := 107) rfl)) rfl
theorem wm_1068 : (.code yX8_loavesOf cX8_loavesOf 2 (Option.some FieldType.int) : Cond) ∈ wAll := wg (wt_5 _ (List.mem_of_getElem? (i := 108) rfl)) rfl
theorem wm_1069 : (.methodLink RL 222 yL_freeAt : Cond) ∈ wAll := wg (wt_5 _ (List.mem_of_getElem? (i := 109) rfl)) rfl
theorem wm_1070 : (.static yL_freeAt : Cond) ∈ wAll := wg (wt_5 _ (List.mem_of_getElem? (i := 110) rfl)) rfl
theorem wm_1071 : (.codeWith yL_freeAt method_13_code 4 (Option.some FieldType.int) [(0, 9, 12, 13)] : Cond) ∈ wAll := wg (wt_5 _ (List.mem_of_getElem? (i := 111) rfl)) rfl
theorem wm_1072 : (.methodLink RL 43 yX8_freeAt : Cond) ∈ wAll := wg (wt_5 _ (List.mem_of_getElem? (i := 112) rfl)) rfl
theorem wm_1073 : (.instanceMethod yX8_freeAt : Cond) ∈ wAll := wg (wt_5 _ (List.mem_of_getElem? (i := 113) rfl)) rfl
theorem wm_1074 : (.selects RX8 yX8_freeAt yX8_freeAt : Cond) ∈ wAll := wg (wt_5 _ (List.mem_of_getElem? (i := 114) rfl)) rfl
theorem wm_1075 : (.code yX8_freeAt cX8_freeAt 2 (Option.some FieldType.int) : Cond) ∈ wAll := wg (wt_5 _ (List.mem_of_getElem? (i := 115) rfl)) rfl
theorem wm_1076 : (.methodLink RL 229 yL_rateAt : Cond) ∈ wAll := wg (wt_5 _ (List.mem_of_getElem? (i := 116) rfl)) rfl
theorem wm_1077 : (.static yL_rateAt : Cond) ∈ wAll := wg (wt_5 _ (List.mem_of_getElem? (i := 117) rfl)) rfl
theorem wm_1078 : (.codeWith yL_rateAt method_14_code 4 (Option.some FieldType.int) [(0, 9, 12, 49)] : Cond) ∈ wAll := wg (wt_5 _ (List.mem_of_getElem? (i := 118) rfl)) rfl
theorem wm_1079 : (.classLink RL 49 "java/lang/IllegalArgumentException" : Cond) ∈ wAll := wg (wt_5 _ (List.mem_of_getElem? (i := 119) rfl)) rfl
theorem wm_1080 : (.methodLink RL 46 yX8_rateAt : Cond) ∈ wAll := wg (wt_5 _ (List.mem_of_getElem? (i := 120) rfl)) rfl
theorem wm_1081 : (.instanceMethod yX8_rateAt : Cond) ∈ wAll := wg (wt_5 _ (List.mem_of_getElem? (i := 121) rfl)) rfl
theorem wm_1082 : (.selects RX8 yX8_rateAt yX8_rateAt : Cond) ∈ wAll := wg (wt_5 _ (List.mem_of_getElem? (i := 122) rfl)) rfl
theorem wm_1083 : (.code yX8_rateAt cX8_rateAt 2 (Option.some FieldType.int) : Cond) ∈ wAll := wg (wt_5 _ (List.mem_of_getElem? (i := 123) rfl)) rfl
theorem wm_1084 : (.methodLink RX8 197 yX8_requireRange : Cond) ∈ wAll := wg (wt_5 _ (List.mem_of_getElem? (i := 124) rfl)) rfl
theorem wm_1085 : (.static yX8_requireRange : Cond) ∈ wAll := wg (wt_5 _ (List.mem_of_getElem? (i := 125) rfl)) rfl
theorem wm_1086 : (.code yX8_requireRange cX8_requireRange 3 (Option.none : Option FieldType) : Cond) ∈ wAll := wg (wt_5 _ (List.mem_of_getElem? (i := 126) rfl)) rfl
theorem wm_1087 : (.classLink RX8 352 "java/lang/IllegalArgumentException" : Cond) ∈ wAll := wg (wt_5 _ (List.mem_of_getElem? (i := 127) rfl)) rfl
theorem wm_1088 : (.instantiable "java/lang/IllegalArgumentException" 6 : Cond) ∈ wAll := wg (wt_5 _ (List.mem_of_getElem? (i := 128) rfl)) rfl
theorem wm_1090 : (.selects "java/lang/IllegalArgumentException" ⟨"java/lang/Throwable", "fillInStackTrace", "(I)Ljava/lang/Throwable;"⟩ ⟨"java/lang/Throwable", "fillInStackTrace", "(I)Ljava/lang/Throwable;"⟩ : Cond) ∈ wAll := wg (wt_5 _ (List.mem_of_getElem? (i := 130) rfl)) rfl
theorem wm_1091 : (.lays "java/lang/IllegalArgumentException" "java/lang/Throwable" "cause" "Ljava/lang/Throwable;" : Cond) ∈ wAll := wg (wt_5 _ (List.mem_of_getElem? (i := 131) rfl)) rfl
theorem wm_1092 : (.lays "java/lang/IllegalArgumentException" "java/lang/Throwable" "stackTrace" "[Ljava/lang/StackTraceElement;" : Cond) ∈ wAll := wg (wt_5 _ (List.mem_of_getElem? (i := 132) rfl)) rfl
theorem wm_1093 : (.lays "java/lang/IllegalArgumentException" "java/lang/Throwable" "suppressedExceptions" "Ljava/util/List;" : Cond) ∈ wAll := wg (wt_5 _ (List.mem_of_getElem? (i := 133) rfl)) rfl
theorem wm_1094 : (.lays "java/lang/IllegalArgumentException" "java/lang/Throwable" "detailMessage" "Ljava/lang/String;" : Cond) ∈ wAll := wg (wt_5 _ (List.mem_of_getElem? (i := 134) rfl)) rfl
theorem wm_1095 : (.lays "java/lang/IllegalArgumentException" "java/lang/Throwable" "backtrace" "Ljava/lang/Object;" : Cond) ∈ wAll := wg (wt_5 _ (List.mem_of_getElem? (i := 135) rfl)) rfl
theorem wm_1097 : (.methodLink RX8 356 ⟨"java/lang/IllegalArgumentException", "<init>", "(Ljava/lang/String;)V"⟩ : Cond) ∈ wAll := wg (wt_5 _ (List.mem_of_getElem? (i := 137) rfl)) rfl
theorem wm_1098 : (.instanceMethod ⟨"java/lang/IllegalArgumentException", "<init>", "(Ljava/lang/String;)V"⟩ : Cond) ∈ wAll := wg (wt_5 _ (List.mem_of_getElem? (i := 138) rfl)) rfl
theorem wm_1099 : (.code ⟨"java/lang/IllegalArgumentException", "<init>", "(Ljava/lang/String;)V"⟩ prog_20_method_2_code 2 (Option.none : Option FieldType) : Cond) ∈ wAll := wg (wt_5 _ (List.mem_of_getElem? (i := 139) rfl)) rfl
theorem wm_1100 : (.methodLink "java/lang/IllegalArgumentException" 7 ⟨"java/lang/RuntimeException", "<init>", "(Ljava/lang/String;)V"⟩ : Cond) ∈ wAll := wg (wt_5 _ (List.mem_of_getElem? (i := 140) rfl)) rfl
theorem wm_1101 : (.lays "java/lang/IllegalArgumentException" "java/lang/Throwable" "depth" "I" : Cond) ∈ wAll := wg (wt_5 _ (List.mem_of_getElem? (i := 141) rfl)) rfl
theorem wm_1102 : (.superclass "java/lang/IllegalArgumentException" "java/lang/RuntimeException" : Cond) ∈ wAll := wg (wt_5 _ (List.mem_of_getElem? (i := 142) rfl)) rfl
theorem wm_1103 : (.methodLink RL 240 yL_batchBread : Cond) ∈ wAll := wg (wt_5 _ (List.mem_of_getElem? (i := 143) rfl)) rfl
theorem wm_1104 : (.static yL_batchBread : Cond) ∈ wAll := wg (wt_5 _ (List.mem_of_getElem? (i := 144) rfl)) rfl
theorem wm_1105 : (.codeWith yL_batchBread method_15_code 4 (Option.some FieldType.int) [(0, 9, 12, 13)] : Cond) ∈ wAll := wg (wt_5 _ (List.mem_of_getElem? (i := 145) rfl)) rfl
theorem wm_1106 : (.methodLink RL 51 yX8_batchBread : Cond) ∈ wAll := wg (wt_5 _ (List.mem_of_getElem? (i := 146) rfl)) rfl
theorem wm_1107 : (.instanceMethod yX8_batchBread : Cond) ∈ wAll := wg (wt_5 _ (List.mem_of_getElem? (i := 147) rfl)) rfl
theorem wm_1108 : (.selects RX8 yX8_batchBread yX8_batchBread : Cond) ∈ wAll := wg (wt_5 _ (List.mem_of_getElem? (i := 148) rfl)) rfl
theorem wm_1109 : (.code yX8_batchBread cX8_batchBread 2 (Option.some FieldType.int) : Cond) ∈ wAll := wg (wt_5 _ (List.mem_of_getElem? (i := 149) rfl)) rfl
theorem wm_1110 : (.methodLink RX8 207 yX8_requireBatch : Cond) ∈ wAll := wg (wt_5 _ (List.mem_of_getElem? (i := 150) rfl)) rfl
theorem wm_1112 : (.instanceMethod yX8_requireBatch : Cond) ∈ wAll := wg (wt_5 _ (List.mem_of_getElem? (i := 152) rfl)) rfl
theorem wm_1113 : (.code yX8_requireBatch cX8_requireBatch 2 (Option.none : Option FieldType) : Cond) ∈ wAll := wg (wt_5 _ (List.mem_of_getElem? (i := 153) rfl)) rfl
theorem wm_1114 : (.methodLink RL 243 yL_goodLoaves : Cond) ∈ wAll := wg (wt_5 _ (List.mem_of_getElem? (i := 154) rfl)) rfl
theorem wm_1115 : (.static yL_goodLoaves : Cond) ∈ wAll := wg (wt_5 _ (List.mem_of_getElem? (i := 155) rfl)) rfl
theorem wm_1116 : (.codeWith yL_goodLoaves method_16_code 4 (Option.some FieldType.int) [(0, 9, 12, 13)] : Cond) ∈ wAll := wg (wt_5 _ (List.mem_of_getElem? (i := 156) rfl)) rfl
theorem wm_1117 : (.methodLink RL 54 yX8_goodLoaves : Cond) ∈ wAll := wg (wt_5 _ (List.mem_of_getElem? (i := 157) rfl)) rfl
theorem wm_1118 : (.instanceMethod yX8_goodLoaves : Cond) ∈ wAll := wg (wt_5 _ (List.mem_of_getElem? (i := 158) rfl)) rfl
theorem wm_1119 : (.selects RX8 yX8_goodLoaves yX8_goodLoaves : Cond) ∈ wAll := wg (wt_5 _ (List.mem_of_getElem? (i := 159) rfl)) rfl
theorem wm_1120 : (.code yX8_goodLoaves cX8_goodLoaves 2 (Option.some FieldType.int) : Cond) ∈ wAll := wg (wt_5 _ (List.mem_of_getElem? (i := 160) rfl)) rfl
theorem wm_1121 : (.methodLink RL 246 yL_startOf : Cond) ∈ wAll := wg (wt_5 _ (List.mem_of_getElem? (i := 161) rfl)) rfl
theorem wm_1122 : (.static yL_startOf : Cond) ∈ wAll := wg (wt_5 _ (List.mem_of_getElem? (i := 162) rfl)) rfl
theorem wm_1123 : (.codeWith yL_startOf method_17_code 4 (Option.some FieldType.int) [(0, 9, 12, 13)] : Cond) ∈ wAll := wg (wt_5 _ (List.mem_of_getElem? (i := 163) rfl)) rfl
theorem wm_1124 : (.methodLink RL 57 yX8_startOf : Cond) ∈ wAll := wg (wt_5 _ (List.mem_of_getElem? (i := 164) rfl)) rfl
theorem wm_1125 : (.instanceMethod yX8_startOf : Cond) ∈ wAll := wg (wt_5 _ (List.mem_of_getElem? (i := 165) rfl)) rfl
theorem wm_1126 : (.selects RX8 yX8_startOf yX8_startOf : Cond) ∈ wAll := wg (wt_5 _ (List.mem_of_getElem? (i := 166) rfl)) rfl
theorem wm_1127 : (.code yX8_startOf cX8_startOf 2 (Option.some FieldType.int) : Cond) ∈ wAll := wg (wt_5 _ (List.mem_of_getElem? (i := 167) rfl)) rfl
theorem wm_1128 : (.methodLink RL 249 yL_ovenMinutes : Cond) ∈ wAll := wg (wt_5 _ (List.mem_of_getElem? (i := 168) rfl)) rfl
theorem wm_1129 : (.static yL_ovenMinutes : Cond) ∈ wAll := wg (wt_5 _ (List.mem_of_getElem? (i := 169) rfl)) rfl
theorem wm_1130 : (.codeWith yL_ovenMinutes method_18_code 4 (Option.some FieldType.int) [(0, 9, 12, 13)] : Cond) ∈ wAll := wg (wt_5 _ (List.mem_of_getElem? (i := 170) rfl)) rfl
theorem wm_1131 : (.methodLink RL 60 yX8_ovenMinutes : Cond) ∈ wAll := wg (wt_5 _ (List.mem_of_getElem? (i := 171) rfl)) rfl
theorem wm_1132 : (.instanceMethod yX8_ovenMinutes : Cond) ∈ wAll := wg (wt_5 _ (List.mem_of_getElem? (i := 172) rfl)) rfl
theorem wm_1133 : (.selects RX8 yX8_ovenMinutes yX8_ovenMinutes : Cond) ∈ wAll := wg (wt_5 _ (List.mem_of_getElem? (i := 173) rfl)) rfl
theorem wm_1134 : (.code yX8_ovenMinutes cX8_ovenMinutes 2 (Option.some FieldType.int) : Cond) ∈ wAll := wg (wt_5 _ (List.mem_of_getElem? (i := 174) rfl)) rfl
theorem wm_1135 : (.methodLink RL 252 yL_costOf : Cond) ∈ wAll := wg (wt_5 _ (List.mem_of_getElem? (i := 175) rfl)) rfl
theorem wm_1136 : (.static yL_costOf : Cond) ∈ wAll := wg (wt_5 _ (List.mem_of_getElem? (i := 176) rfl)) rfl
theorem wm_1137 : (.codeWith yL_costOf method_19_code 4 (Option.some FieldType.int) [(0, 9, 12, 13)] : Cond) ∈ wAll := wg (wt_5 _ (List.mem_of_getElem? (i := 177) rfl)) rfl
theorem wm_1138 : (.methodLink RL 63 yX8_costOf : Cond) ∈ wAll := wg (wt_5 _ (List.mem_of_getElem? (i := 178) rfl)) rfl
theorem wm_1139 : (.instanceMethod yX8_costOf : Cond) ∈ wAll := wg (wt_5 _ (List.mem_of_getElem? (i := 179) rfl)) rfl
theorem wm_1140 : (.selects RX8 yX8_costOf yX8_costOf : Cond) ∈ wAll := wg (wt_5 _ (List.mem_of_getElem? (i := 180) rfl)) rfl
theorem wm_1141 : (.code yX8_costOf cX8_costOf 2 (Option.some FieldType.int) : Cond) ∈ wAll := wg (wt_5 _ (List.mem_of_getElem? (i := 181) rfl)) rfl
theorem wm_1142 : (.methodLink RL 255 yL_lossOf : Cond) ∈ wAll := wg (wt_5 _ (List.mem_of_getElem? (i := 182) rfl)) rfl
theorem wm_1143 : (.static yL_lossOf : Cond) ∈ wAll := wg (wt_5 _ (List.mem_of_getElem? (i := 183) rfl)) rfl
theorem wm_1144 : (.codeWith yL_lossOf method_20_code 4 (Option.some FieldType.int) [(0, 9, 12, 13)] : Cond) ∈ wAll := wg (wt_5 _ (List.mem_of_getElem? (i := 184) rfl)) rfl
theorem wm_1145 : (.methodLink RL 66 yX8_lossOf : Cond) ∈ wAll := wg (wt_5 _ (List.mem_of_getElem? (i := 185) rfl)) rfl
theorem wm_1146 : (.instanceMethod yX8_lossOf : Cond) ∈ wAll := wg (wt_5 _ (List.mem_of_getElem? (i := 186) rfl)) rfl
theorem wm_1147 : (.selects RX8 yX8_lossOf yX8_lossOf : Cond) ∈ wAll := wg (wt_5 _ (List.mem_of_getElem? (i := 187) rfl)) rfl
theorem wm_1148 : (.code yX8_lossOf cX8_lossOf 2 (Option.some FieldType.int) : Cond) ∈ wAll := wg (wt_5 _ (List.mem_of_getElem? (i := 188) rfl)) rfl
theorem wm_1149 : (.methodLink RL 258 yL_gapOf : Cond) ∈ wAll := wg (wt_5 _ (List.mem_of_getElem? (i := 189) rfl)) rfl
theorem wm_1150 : (.static yL_gapOf : Cond) ∈ wAll := wg (wt_5 _ (List.mem_of_getElem? (i := 190) rfl)) rfl
theorem wm_1151 : (.codeWith yL_gapOf method_21_code 5 (Option.some FieldType.int) [(0, 10, 13, 13), (0, 10, 17, 49)] : Cond) ∈ wAll := wg (wt_5 _ (List.mem_of_getElem? (i := 191) rfl)) rfl
theorem wm_1152 : (.methodLink RL 69 yX8_gapOf : Cond) ∈ wAll := wg (wt_5 _ (List.mem_of_getElem? (i := 192) rfl)) rfl
theorem wm_1153 : (.instanceMethod yX8_gapOf : Cond) ∈ wAll := wg (wt_5 _ (List.mem_of_getElem? (i := 193) rfl)) rfl
theorem wm_1154 : (.selects RX8 yX8_gapOf yX8_gapOf : Cond) ∈ wAll := wg (wt_5 _ (List.mem_of_getElem? (i := 194) rfl)) rfl
theorem wm_1155 : (.code yX8_gapOf cX8_gapOf 3 (Option.some FieldType.int) : Cond) ∈ wAll := wg (wt_5 _ (List.mem_of_getElem? (i := 195) rfl)) rfl
theorem wm_1156 : (.methodLink RL 261 yL_kindAt : Cond) ∈ wAll := wg (wt_5 _ (List.mem_of_getElem? (i := 196) rfl)) rfl
theorem wm_1157 : (.static yL_kindAt : Cond) ∈ wAll := wg (wt_5 _ (List.mem_of_getElem? (i := 197) rfl)) rfl
theorem wm_1158 : (.codeWith yL_kindAt method_22_code 5 (Option.some FieldType.int) [(0, 10, 13, 13)] : Cond) ∈ wAll := wg (wt_5 _ (List.mem_of_getElem? (i := 198) rfl)) rfl
theorem wm_1159 : (.methodLink RL 72 yX8_kindAt : Cond) ∈ wAll := wg (wt_5 _ (List.mem_of_getElem? (i := 199) rfl)) rfl
theorem wm_1160 : (.instanceMethod yX8_kindAt : Cond) ∈ wAll := wg (wt_5 _ (List.mem_of_getElem? (i := 200) rfl)) rfl
theorem wm_1161 : (.selects RX8 yX8_kindAt yX8_kindAt : Cond) ∈ wAll := wg (wt_5 _ (List.mem_of_getElem? (i := 201) rfl)) rfl
theorem wm_1162 : (.code yX8_kindAt cX8_kindAt 3 (Option.some FieldType.int) : Cond) ∈ wAll := wg (wt_5 _ (List.mem_of_getElem? (i := 202) rfl)) rfl
theorem wm_1163 : (.methodLink RX8 235 yX0_kindInPlace : Cond) ∈ wAll := wg (wt_5 _ (List.mem_of_getElem? (i := 203) rfl)) rfl
theorem wm_1164 : (.instanceMethod yX0_kindInPlace : Cond) ∈ wAll := wg (wt_5 _ (List.mem_of_getElem? (i := 204) rfl)) rfl
theorem wm_1165 : (.selects RX0 yX0_kindInPlace yX0_kindInPlace : Cond) ∈ wAll := wg (wt_5 _ (List.mem_of_getElem? (i := 205) rfl)) rfl
theorem wm_1166 : (.code yX0_kindInPlace cX0_kindInPlace 4 (Option.some FieldType.int) : Cond) ∈ wAll := wg (wt_5 _ (List.mem_of_getElem? (i := 206) rfl)) rfl
theorem wm_1167 : (.methodLink RX0 53 yX0_placeOfKind : Cond) ∈ wAll := wg (wt_5 _ (List.mem_of_getElem? (i := 207) rfl)) rfl
theorem wm_1169 : (.instanceMethod yX0_placeOfKind : Cond) ∈ wAll := wg (wt_5 _ (List.mem_of_getElem? (i := 209) rfl)) rfl
theorem wm_1170 : (.code yX0_placeOfKind cX0_placeOfKind 6 (Option.some FieldType.int) : Cond) ∈ wAll := wg (wt_5 _ (List.mem_of_getElem? (i := 210) rfl)) rfl
theorem wm_1171 : (.methodLink RL 264 yL_gapSum : Cond) ∈ wAll := wg (wt_5 _ (List.mem_of_getElem? (i := 211) rfl)) rfl
theorem wm_1172 : (.static yL_gapSum : Cond) ∈ wAll := wg (wt_5 _ (List.mem_of_getElem? (i := 212) rfl)) rfl
theorem wm_1173 : (.codeWith yL_gapSum method_23_code 4 (Option.some FieldType.int) [(0, 9, 12, 49)] : Cond) ∈ wAll := wg (wt_5 _ (List.mem_of_getElem? (i := 213) rfl)) rfl
theorem wm_1174 : (.methodLink RL 75 yX8_gapSum : Cond) ∈ wAll := wg (wt_5 _ (List.mem_of_getElem? (i := 214) rfl)) rfl
theorem wm_1175 : (.instanceMethod yX8_gapSum : Cond) ∈ wAll := wg (wt_5 _ (List.mem_of_getElem? (i := 215) rfl)) rfl
theorem wm_1176 : (.selects RX8 yX8_gapSum yX8_gapSum : Cond) ∈ wAll := wg (wt_5 _ (List.mem_of_getElem? (i := 216) rfl)) rfl
theorem wm_1177 : (.code yX8_gapSum cX8_gapSum 2 (Option.some FieldType.int) : Cond) ∈ wAll := wg (wt_5 _ (List.mem_of_getElem? (i := 217) rfl)) rfl
theorem wm_1178 : (.methodLink RX8 239 yX6_sumOfKind : Cond) ∈ wAll := wg (wt_5 _ (List.mem_of_getElem? (i := 218) rfl)) rfl
theorem wm_1179 : (.methodLink RL 267 yL_priceGap : Cond) ∈ wAll := wg (wt_5 _ (List.mem_of_getElem? (i := 219) rfl)) rfl
theorem wm_1180 : (.static yL_priceGap : Cond) ∈ wAll := wg (wt_5 _ (List.mem_of_getElem? (i := 220) rfl)) rfl
theorem wm_1181 : (.codeWith yL_priceGap method_24_code 4 (Option.some FieldType.int) [(0, 9, 12, 13)] : Cond) ∈ wAll := wg (wt_5 _ (List.mem_of_getElem? (i := 221) rfl)) rfl
theorem wm_1182 : (.methodLink RL 78 yX8_priceGap : Cond) ∈ wAll := wg (wt_5 _ (List.mem_of_getElem? (i := 222) rfl)) rfl
theorem wm_1183 : (.instanceMethod yX8_priceGap : Cond) ∈ wAll := wg (wt_5 _ (List.mem_of_getElem? (i := 223) rfl)) rfl
theorem wm_1184 : (.selects RX8 yX8_priceGap yX8_priceGap : Cond) ∈ wAll := wg (wt_5 _ (List.mem_of_getElem? (i := 224) rfl)) rfl
theorem wm_1185 : (.code yX8_priceGap cX8_priceGap 2 (Option.some FieldType.int) : Cond) ∈ wAll := wg (wt_5 _ (List.mem_of_getElem? (i := 225) rfl)) rfl
theorem wm_1186 : (.methodLink RL 270 yL_useGap : Cond) ∈ wAll := wg (wt_5 _ (List.mem_of_getElem? (i := 226) rfl)) rfl
theorem wm_1187 : (.static yL_useGap : Cond) ∈ wAll := wg (wt_5 _ (List.mem_of_getElem? (i := 227) rfl)) rfl
theorem wm_1188 : (.codeWith yL_useGap method_25_code 4 (Option.some FieldType.int) [(0, 9, 12, 13)] : Cond) ∈ wAll := wg (wt_5 _ (List.mem_of_getElem? (i := 228) rfl)) rfl
theorem wm_1189 : (.methodLink RL 81 yX8_useGap : Cond) ∈ wAll := wg (wt_5 _ (List.mem_of_getElem? (i := 229) rfl)) rfl
theorem wm_1190 : (.instanceMethod yX8_useGap : Cond) ∈ wAll := wg (wt_5 _ (List.mem_of_getElem? (i := 230) rfl)) rfl
theorem wm_1191 : (.selects RX8 yX8_useGap yX8_useGap : Cond) ∈ wAll := wg (wt_5 _ (List.mem_of_getElem? (i := 231) rfl)) rfl
theorem wm_1192 : (.code yX8_useGap cX8_useGap 2 (Option.some FieldType.int) : Cond) ∈ wAll := wg (wt_5 _ (List.mem_of_getElem? (i := 232) rfl)) rfl
theorem wm_1193 : (.methodLink RL 285 yL_bakeObstacle : Cond) ∈ wAll := wg (wt_5 _ (List.mem_of_getElem? (i := 233) rfl)) rfl
theorem wm_1194 : (.static yL_bakeObstacle : Cond) ∈ wAll := wg (wt_5 _ (List.mem_of_getElem? (i := 234) rfl)) rfl
theorem wm_1195 : (.codeWith yL_bakeObstacle method_26_code 7 (Option.some FieldType.int) [(0, 14, 17, 13), (0, 14, 21, 49)] : Cond) ∈ wAll := wg (wt_5 _ (List.mem_of_getElem? (i := 235) rfl)) rfl
theorem wm_1196 : (.methodLink RL 84 yX8_bakeObstacle : Cond) ∈ wAll := wg (wt_5 _ (List.mem_of_getElem? (i := 236) rfl)) rfl
theorem wm_1197 : (.instanceMethod yX8_bakeObstacle : Cond) ∈ wAll := wg (wt_5 _ (List.mem_of_getElem? (i := 237) rfl)) rfl
theorem wm_1198 : (.selects RX8 yX8_bakeObstacle yX8_bakeObstacle : Cond) ∈ wAll := wg (wt_5 _ (List.mem_of_getElem? (i := 238) rfl)) rfl
theorem wm_1199 : (.code yX8_bakeObstacle cX8_bakeObstacle 5 (Option.some FieldType.int) : Cond) ∈ wAll := wg (wt_5 _ (List.mem_of_getElem? (i := 239) rfl)) rfl
theorem wm_1200 : (.methodLink RX8 257 yX8_requirePlan : Cond) ∈ wAll := wg (wt_6 _ (List.mem_of_getElem? (i := 0) rfl)) rfl
theorem wm_1201 : (.static yX8_requirePlan : Cond) ∈ wAll := wg (wt_6 _ (List.mem_of_getElem? (i := 1) rfl)) rfl
theorem wm_1202 : (.code yX8_requirePlan cX8_requirePlan 3 (Option.none : Option FieldType) : Cond) ∈ wAll := wg (wt_6 _ (List.mem_of_getElem? (i := 2) rfl)) rfl
theorem wm_1203 : (.methodLink RX8 260 yX6_obstacle : Cond) ∈ wAll := wg (wt_6 _ (List.mem_of_getElem? (i := 3) rfl)) rfl
theorem wm_1204 : (.methodLink RL 289 yL_lossIfBaked : Cond) ∈ wAll := wg (wt_6 _ (List.mem_of_getElem? (i := 4) rfl)) rfl
theorem wm_1205 : (.static yL_lossIfBaked : Cond) ∈ wAll := wg (wt_6 _ (List.mem_of_getElem? (i := 5) rfl)) rfl
theorem wm_1206 : (.codeWith yL_lossIfBaked method_27_code 5 (Option.some FieldType.int) [(0, 10, 13, 13), (0, 10, 17, 49), (0, 10, 21, 91)] : Cond) ∈ wAll := wg (wt_6 _ (List.mem_of_getElem? (i := 6) rfl)) rfl
theorem wm_1207 : (.classLink RL 91 "java/lang/IllegalStateException" : Cond) ∈ wAll := wg (wt_6 _ (List.mem_of_getElem? (i := 7) rfl)) rfl
theorem wm_1208 : (.methodLink RL 88 yX8_lossIfBaked : Cond) ∈ wAll := wg (wt_6 _ (List.mem_of_getElem? (i := 8) rfl)) rfl
theorem wm_1209 : (.instanceMethod yX8_lossIfBaked : Cond) ∈ wAll := wg (wt_6 _ (List.mem_of_getElem? (i := 9) rfl)) rfl
theorem wm_1210 : (.selects RX8 yX8_lossIfBaked yX8_lossIfBaked : Cond) ∈ wAll := wg (wt_6 _ (List.mem_of_getElem? (i := 10) rfl)) rfl
theorem wm_1211 : (.code yX8_lossIfBaked cX8_lossIfBaked 3 (Option.some FieldType.int) : Cond) ∈ wAll := wg (wt_6 _ (List.mem_of_getElem? (i := 11) rfl)) rfl
theorem wm_1212 : (.methodLink RX8 264 yX8_requireState : Cond) ∈ wAll := wg (wt_6 _ (List.mem_of_getElem? (i := 12) rfl)) rfl
theorem wm_1213 : (.static yX8_requireState : Cond) ∈ wAll := wg (wt_6 _ (List.mem_of_getElem? (i := 13) rfl)) rfl
theorem wm_1214 : (.code yX8_requireState cX8_requireState 1 (Option.none : Option FieldType) : Cond) ∈ wAll := wg (wt_6 _ (List.mem_of_getElem? (i := 14) rfl)) rfl
theorem wm_1215 : (.classLink RX8 357 "java/lang/IllegalStateException" : Cond) ∈ wAll := wg (wt_6 _ (List.mem_of_getElem? (i := 15) rfl)) rfl
theorem wm_1216 : (.instantiable "java/lang/IllegalStateException" 6 : Cond) ∈ wAll := wg (wt_6 _ (List.mem_of_getElem? (i := 16) rfl)) rfl
theorem wm_1218 : (.selects "java/lang/IllegalStateException" ⟨"java/lang/Throwable", "fillInStackTrace", "(I)Ljava/lang/Throwable;"⟩ ⟨"java/lang/Throwable", "fillInStackTrace", "(I)Ljava/lang/Throwable;"⟩ : Cond) ∈ wAll := wg (wt_6 _ (List.mem_of_getElem? (i := 18) rfl)) rfl
theorem wm_1219 : (.lays "java/lang/IllegalStateException" "java/lang/Throwable" "cause" "Ljava/lang/Throwable;" : Cond) ∈ wAll := wg (wt_6 _ (List.mem_of_getElem? (i := 19) rfl)) rfl
theorem wm_1220 : (.lays "java/lang/IllegalStateException" "java/lang/Throwable" "stackTrace" "[Ljava/lang/StackTraceElement;" : Cond) ∈ wAll := wg (wt_6 _ (List.mem_of_getElem? (i := 20) rfl)) rfl
theorem wm_1221 : (.lays "java/lang/IllegalStateException" "java/lang/Throwable" "suppressedExceptions" "Ljava/util/List;" : Cond) ∈ wAll := wg (wt_6 _ (List.mem_of_getElem? (i := 21) rfl)) rfl
theorem wm_1222 : (.lays "java/lang/IllegalStateException" "java/lang/Throwable" "detailMessage" "Ljava/lang/String;" : Cond) ∈ wAll := wg (wt_6 _ (List.mem_of_getElem? (i := 22) rfl)) rfl
theorem wm_1223 : (.lays "java/lang/IllegalStateException" "java/lang/Throwable" "backtrace" "Ljava/lang/Object;" : Cond) ∈ wAll := wg (wt_6 _ (List.mem_of_getElem? (i := 23) rfl)) rfl
theorem wm_1225 : (.methodLink RX8 361 ⟨"java/lang/IllegalStateException", "<init>", "(Ljava/lang/String;)V"⟩ : Cond) ∈ wAll := wg (wt_6 _ (List.mem_of_getElem? (i := 25) rfl)) rfl
theorem wm_1226 : (.instanceMethod ⟨"java/lang/IllegalStateException", "<init>", "(Ljava/lang/String;)V"⟩ : Cond) ∈ wAll := wg (wt_6 _ (List.mem_of_getElem? (i := 26) rfl)) rfl
theorem wm_1227 : (.code ⟨"java/lang/IllegalStateException", "<init>", "(Ljava/lang/String;)V"⟩ prog_21_method_2_code 2 (Option.none : Option FieldType) : Cond) ∈ wAll := wg (wt_6 _ (List.mem_of_getElem? (i := 27) rfl)) rfl
theorem wm_1228 : (.methodLink "java/lang/IllegalStateException" 7 ⟨"java/lang/RuntimeException", "<init>", "(Ljava/lang/String;)V"⟩ : Cond) ∈ wAll := wg (wt_6 _ (List.mem_of_getElem? (i := 28) rfl)) rfl
theorem wm_1229 : (.lays "java/lang/IllegalStateException" "java/lang/Throwable" "depth" "I" : Cond) ∈ wAll := wg (wt_6 _ (List.mem_of_getElem? (i := 29) rfl)) rfl
theorem wm_1230 : (.superclass "java/lang/IllegalStateException" "java/lang/RuntimeException" : Cond) ∈ wAll := wg (wt_6 _ (List.mem_of_getElem? (i := 30) rfl)) rfl
theorem wm_1231 : (.methodLink RX8 268 yX6_plainLoss : Cond) ∈ wAll := wg (wt_6 _ (List.mem_of_getElem? (i := 31) rfl)) rfl
theorem wm_1232 : (.instanceMethod yX6_plainLoss : Cond) ∈ wAll := wg (wt_6 _ (List.mem_of_getElem? (i := 32) rfl)) rfl
theorem wm_1233 : (.selects RX6 yX6_plainLoss yX6_plainLoss : Cond) ∈ wAll := wg (wt_6 _ (List.mem_of_getElem? (i := 33) rfl)) rfl
theorem wm_1234 : (.code yX6_plainLoss cX6_plainLoss 4 (Option.some FieldType.int) : Cond) ∈ wAll := wg (wt_6 _ (List.mem_of_getElem? (i := 34) rfl)) rfl
theorem wm_1235 : (.methodLink RX6 193 yX6_plainOvenPrice : Cond) ∈ wAll := wg (wt_6 _ (List.mem_of_getElem? (i := 35) rfl)) rfl
theorem wm_1237 : (.instanceMethod yX6_plainOvenPrice : Cond) ∈ wAll := wg (wt_6 _ (List.mem_of_getElem? (i := 37) rfl)) rfl
theorem wm_1238 : (.code yX6_plainOvenPrice cX6_plainOvenPrice 5 (Option.some FieldType.int) : Cond) ∈ wAll := wg (wt_6 _ (List.mem_of_getElem? (i := 38) rfl)) rfl
theorem wm_1239 : (.methodLink RL 292 yL_possibleLoaves : Cond) ∈ wAll := wg (wt_6 _ (List.mem_of_getElem? (i := 39) rfl)) rfl
theorem wm_1240 : (.static yL_possibleLoaves : Cond) ∈ wAll := wg (wt_6 _ (List.mem_of_getElem? (i := 40) rfl)) rfl
theorem wm_1241 : (.codeWith yL_possibleLoaves method_28_code 4 (Option.some FieldType.int) [(0, 9, 12, 13)] : Cond) ∈ wAll := wg (wt_6 _ (List.mem_of_getElem? (i := 41) rfl)) rfl
theorem wm_1242 : (.methodLink RL 93 yX8_possibleLoaves : Cond) ∈ wAll := wg (wt_6 _ (List.mem_of_getElem? (i := 42) rfl)) rfl
theorem wm_1243 : (.instanceMethod yX8_possibleLoaves : Cond) ∈ wAll := wg (wt_6 _ (List.mem_of_getElem? (i := 43) rfl)) rfl
theorem wm_1244 : (.selects RX8 yX8_possibleLoaves yX8_possibleLoaves : Cond) ∈ wAll := wg (wt_6 _ (List.mem_of_getElem? (i := 44) rfl)) rfl
theorem wm_1245 : (.code yX8_possibleLoaves cX8_possibleLoaves 2 (Option.some FieldType.int) : Cond) ∈ wAll := wg (wt_6 _ (List.mem_of_getElem? (i := 45) rfl)) rfl
theorem wm_1246 : (.methodLink RX8 271 yX6_mostLoaves : Cond) ∈ wAll := wg (wt_6 _ (List.mem_of_getElem? (i := 46) rfl)) rfl
theorem wm_1247 : (.instanceMethod yX6_mostLoaves : Cond) ∈ wAll := wg (wt_6 _ (List.mem_of_getElem? (i := 47) rfl)) rfl
theorem wm_1248 : (.selects RX6 yX6_mostLoaves yX6_mostLoaves : Cond) ∈ wAll := wg (wt_6 _ (List.mem_of_getElem? (i := 48) rfl)) rfl
theorem wm_1249 : (.code yX6_mostLoaves cX6_mostLoaves 4 (Option.some FieldType.int) : Cond) ∈ wAll := wg (wt_6 _ (List.mem_of_getElem? (i := 49) rfl)) rfl
theorem wm_1250 : (.methodLink RL 295 yL_bestWait : Cond) ∈ wAll := wg (wt_6 _ (List.mem_of_getElem? (i := 50) rfl)) rfl
theorem wm_1251 : (.static yL_bestWait : Cond) ∈ wAll := wg (wt_6 _ (List.mem_of_getElem? (i := 51) rfl)) rfl
theorem wm_1252 : (.codeWith yL_bestWait method_29_code 5 (Option.some FieldType.int) [(0, 10, 13, 13), (0, 10, 17, 49)] : Cond) ∈ wAll := wg (wt_6 _ (List.mem_of_getElem? (i := 52) rfl)) rfl
theorem wm_1253 : (.methodLink RL 96 yX8_bestWait : Cond) ∈ wAll := wg (wt_6 _ (List.mem_of_getElem? (i := 53) rfl)) rfl
theorem wm_1254 : (.instanceMethod yX8_bestWait : Cond) ∈ wAll := wg (wt_6 _ (List.mem_of_getElem? (i := 54) rfl)) rfl
theorem wm_1255 : (.selects RX8 yX8_bestWait yX8_bestWait : Cond) ∈ wAll := wg (wt_6 _ (List.mem_of_getElem? (i := 55) rfl)) rfl
theorem wm_1256 : (.code yX8_bestWait cX8_bestWait 3 (Option.some FieldType.int) : Cond) ∈ wAll := wg (wt_6 _ (List.mem_of_getElem? (i := 56) rfl)) rfl
theorem wm_1257 : (.methodLink RX8 274 yX6_cheapestWait : Cond) ∈ wAll := wg (wt_6 _ (List.mem_of_getElem? (i := 57) rfl)) rfl
theorem wm_1258 : (.instanceMethod yX6_cheapestWait : Cond) ∈ wAll := wg (wt_6 _ (List.mem_of_getElem? (i := 58) rfl)) rfl
theorem wm_1259 : (.selects RX6 yX6_cheapestWait yX6_cheapestWait : Cond) ∈ wAll := wg (wt_6 _ (List.mem_of_getElem? (i := 59) rfl)) rfl
theorem wm_1260 : (.code yX6_cheapestWait cX6_cheapestWait 7 (Option.some FieldType.int) : Cond) ∈ wAll := wg (wt_6 _ (List.mem_of_getElem? (i := 60) rfl)) rfl
theorem wm_1261 : (.methodLink RL 332 yL_addFlour : Cond) ∈ wAll := wg (wt_6 _ (List.mem_of_getElem? (i := 61) rfl)) rfl
theorem wm_1262 : (.static yL_addFlour : Cond) ∈ wAll := wg (wt_6 _ (List.mem_of_getElem? (i := 62) rfl)) rfl
theorem wm_1263 : (.codeWith yL_addFlour method_30_code 4 (Option.some FieldType.int) [(0, 9, 12, 49), (0, 9, 15, 91)] : Cond) ∈ wAll := wg (wt_6 _ (List.mem_of_getElem? (i := 63) rfl)) rfl
theorem wm_1264 : (.methodLink RL 99 yX8_addFlour : Cond) ∈ wAll := wg (wt_6 _ (List.mem_of_getElem? (i := 64) rfl)) rfl
theorem wm_1265 : (.instanceMethod yX8_addFlour : Cond) ∈ wAll := wg (wt_6 _ (List.mem_of_getElem? (i := 65) rfl)) rfl
theorem wm_1266 : (.selects RX8 yX8_addFlour yX8_addFlour : Cond) ∈ wAll := wg (wt_6 _ (List.mem_of_getElem? (i := 66) rfl)) rfl
theorem wm_1267 : (.code yX8_addFlour cX8_addFlour 2 (Option.some FieldType.int) : Cond) ∈ wAll := wg (wt_6 _ (List.mem_of_getElem? (i := 67) rfl)) rfl
theorem wm_1268 : (.methodLink RX8 305 yX2_create : Cond) ∈ wAll := wg (wt_6 _ (List.mem_of_getElem? (i := 68) rfl)) rfl
theorem wm_1269 : (.methodLink RL 335 yL_addBread : Cond) ∈ wAll := wg (wt_6 _ (List.mem_of_getElem? (i := 69) rfl)) rfl
theorem wm_1270 : (.static yL_addBread : Cond) ∈ wAll := wg (wt_6 _ (List.mem_of_getElem? (i := 70) rfl)) rfl
theorem wm_1271 : (.codeWith yL_addBread method_31_code 6 (Option.some FieldType.int) [(0, 12, 15, 49), (0, 12, 19, 91)] : Cond) ∈ wAll := wg (wt_6 _ (List.mem_of_getElem? (i := 71) rfl)) rfl
theorem wm_1272 : (.methodLink RL 102 yX8_addBread : Cond) ∈ wAll := wg (wt_6 _ (List.mem_of_getElem? (i := 72) rfl)) rfl
theorem wm_1273 : (.instanceMethod yX8_addBread : Cond) ∈ wAll := wg (wt_6 _ (List.mem_of_getElem? (i := 73) rfl)) rfl
theorem wm_1274 : (.selects RX8 yX8_addBread yX8_addBread : Cond) ∈ wAll := wg (wt_6 _ (List.mem_of_getElem? (i := 74) rfl)) rfl
theorem wm_1275 : (.code yX8_addBread cX8_addBread 4 (Option.some FieldType.int) : Cond) ∈ wAll := wg (wt_6 _ (List.mem_of_getElem? (i := 75) rfl)) rfl
theorem wm_1276 : (.methodLink RX8 308 yX2_highestRecipe : Cond) ∈ wAll := wg (wt_6 _ (List.mem_of_getElem? (i := 76) rfl)) rfl
theorem wm_1277 : (.methodLink RX8 311 yX6_createBread : Cond) ∈ wAll := wg (wt_6 _ (List.mem_of_getElem? (i := 77) rfl)) rfl
theorem wm_1278 : (.methodLink RL 339 yL_buy : Cond) ∈ wAll := wg (wt_6 _ (List.mem_of_getElem? (i := 78) rfl)) rfl
theorem wm_1279 : (.static yL_buy : Cond) ∈ wAll := wg (wt_6 _ (List.mem_of_getElem? (i := 79) rfl)) rfl
theorem wm_1280 : (.codeWith yL_buy method_32_code 6 (Option.some FieldType.int) [(0, 12, 15, 13), (0, 12, 19, 49), (0, 12, 23, 91)] : Cond) ∈ wAll := wg (wt_6 _ (List.mem_of_getElem? (i := 80) rfl)) rfl
theorem wm_1281 : (.methodLink RL 106 yX8_buy : Cond) ∈ wAll := wg (wt_6 _ (List.mem_of_getElem? (i := 81) rfl)) rfl
theorem wm_1282 : (.instanceMethod yX8_buy : Cond) ∈ wAll := wg (wt_6 _ (List.mem_of_getElem? (i := 82) rfl)) rfl
theorem wm_1283 : (.selects RX8 yX8_buy yX8_buy : Cond) ∈ wAll := wg (wt_6 _ (List.mem_of_getElem? (i := 83) rfl)) rfl
theorem wm_1284 : (.code yX8_buy cX8_buy 4 (Option.some FieldType.int) : Cond) ∈ wAll := wg (wt_6 _ (List.mem_of_getElem? (i := 84) rfl)) rfl
theorem wm_1285 : (.methodLink RX8 315 yX6_canBuyLot : Cond) ∈ wAll := wg (wt_6 _ (List.mem_of_getElem? (i := 85) rfl)) rfl
theorem wm_1286 : (.methodLink RX8 319 yX6_buyLot : Cond) ∈ wAll := wg (wt_6 _ (List.mem_of_getElem? (i := 86) rfl)) rfl
theorem wm_1287 : (.methodLink RL 342 yL_setRate : Cond) ∈ wAll := wg (wt_6 _ (List.mem_of_getElem? (i := 87) rfl)) rfl
theorem wm_1288 : (.static yL_setRate : Cond) ∈ wAll := wg (wt_6 _ (List.mem_of_getElem? (i := 88) rfl)) rfl
theorem wm_1289 : (.codeWith yL_setRate method_33_code 5 (Option.some FieldType.int) [(0, 10, 13, 49)] : Cond) ∈ wAll := wg (wt_6 _ (List.mem_of_getElem? (i := 89) rfl)) rfl
theorem wm_1290 : (.methodLink RL 109 yX8_setRate : Cond) ∈ wAll := wg (wt_6 _ (List.mem_of_getElem? (i := 90) rfl)) rfl
theorem wm_1291 : (.instanceMethod yX8_setRate : Cond) ∈ wAll := wg (wt_6 _ (List.mem_of_getElem? (i := 91) rfl)) rfl
theorem wm_1292 : (.selects RX8 yX8_setRate yX8_setRate : Cond) ∈ wAll := wg (wt_6 _ (List.mem_of_getElem? (i := 92) rfl)) rfl
theorem wm_1293 : (.code yX8_setRate cX8_setRate 4 (Option.some FieldType.int) : Cond) ∈ wAll := wg (wt_6 _ (List.mem_of_getElem? (i := 93) rfl)) rfl
theorem wm_1294 : (.methodLink RL 345 yL_bake : Cond) ∈ wAll := wg (wt_6 _ (List.mem_of_getElem? (i := 94) rfl)) rfl
theorem wm_1295 : (.static yL_bake : Cond) ∈ wAll := wg (wt_6 _ (List.mem_of_getElem? (i := 95) rfl)) rfl
theorem wm_1296 : (.codeWith yL_bake method_34_code 8 (Option.some FieldType.int) [(0, 16, 19, 13), (0, 16, 23, 49), (0, 16, 27, 91)] : Cond) ∈ wAll := wg (wt_6 _ (List.mem_of_getElem? (i := 96) rfl)) rfl
theorem wm_1297 : (.methodLink RL 112 yX8_bake : Cond) ∈ wAll := wg (wt_6 _ (List.mem_of_getElem? (i := 97) rfl)) rfl
theorem wm_1298 : (.instanceMethod yX8_bake : Cond) ∈ wAll := wg (wt_6 _ (List.mem_of_getElem? (i := 98) rfl)) rfl
theorem wm_1299 : (.selects RX8 yX8_bake yX8_bake : Cond) ∈ wAll := wg (wt_6 _ (List.mem_of_getElem? (i := 99) rfl)) rfl
theorem wm_1300 : (.code yX8_bake cX8_bake 6 (Option.some FieldType.int) : Cond) ∈ wAll := wg (wt_6 _ (List.mem_of_getElem? (i := 100) rfl)) rfl
theorem wm_1301 : (.methodLink RX8 322 yX6_bakeBatch : Cond) ∈ wAll := wg (wt_6 _ (List.mem_of_getElem? (i := 101) rfl)) rfl
theorem wm_1302 : (.methodLink RL 349 yL_sell : Cond) ∈ wAll := wg (wt_6 _ (List.mem_of_getElem? (i := 102) rfl)) rfl
theorem wm_1303 : (.static yL_sell : Cond) ∈ wAll := wg (wt_6 _ (List.mem_of_getElem? (i := 103) rfl)) rfl
theorem wm_1304 : (.codeWith yL_sell method_35_code 6 (Option.some FieldType.int) [(0, 12, 15, 13), (0, 12, 19, 49), (0, 12, 23, 91)] : Cond) ∈ wAll := wg (wt_6 _ (List.mem_of_getElem? (i := 104) rfl)) rfl
theorem wm_1305 : (.methodLink RL 116 yX8_sell : Cond) ∈ wAll := wg (wt_6 _ (List.mem_of_getElem? (i := 105) rfl)) rfl
theorem wm_1306 : (.instanceMethod yX8_sell : Cond) ∈ wAll := wg (wt_6 _ (List.mem_of_getElem? (i := 106) rfl)) rfl
theorem wm_1307 : (.selects RX8 yX8_sell yX8_sell : Cond) ∈ wAll := wg (wt_6 _ (List.mem_of_getElem? (i := 107) rfl)) rfl
theorem wm_1308 : (.code yX8_sell cX8_sell 4 (Option.some FieldType.int) : Cond) ∈ wAll := wg (wt_6 _ (List.mem_of_getElem? (i := 108) rfl)) rfl
theorem wm_1309 : (.methodLink RX8 326 yX6_sellLoaves : Cond) ∈ wAll := wg (wt_6 _ (List.mem_of_getElem? (i := 109) rfl)) rfl
theorem wm_1310 : (.methodLink RL 352 yL_waitMinutes : Cond) ∈ wAll := wg (wt_6 _ (List.mem_of_getElem? (i := 110) rfl)) rfl
theorem wm_1311 : (.static yL_waitMinutes : Cond) ∈ wAll := wg (wt_6 _ (List.mem_of_getElem? (i := 111) rfl)) rfl
theorem wm_1312 : (.codeWith yL_waitMinutes method_36_code 4 (Option.some FieldType.int) [(0, 9, 12, 49)] : Cond) ∈ wAll := wg (wt_6 _ (List.mem_of_getElem? (i := 112) rfl)) rfl
theorem wm_1313 : (.methodLink RL 119 yX8_waitMinutes : Cond) ∈ wAll := wg (wt_6 _ (List.mem_of_getElem? (i := 113) rfl)) rfl
theorem wm_1314 : (.instanceMethod yX8_waitMinutes : Cond) ∈ wAll := wg (wt_6 _ (List.mem_of_getElem? (i := 114) rfl)) rfl
theorem wm_1315 : (.selects RX8 yX8_waitMinutes yX8_waitMinutes : Cond) ∈ wAll := wg (wt_6 _ (List.mem_of_getElem? (i := 115) rfl)) rfl
theorem wm_1316 : (.code yX8_waitMinutes cX8_waitMinutes 2 (Option.some FieldType.int) : Cond) ∈ wAll := wg (wt_6 _ (List.mem_of_getElem? (i := 116) rfl)) rfl
theorem wm_1317 : (.methodLink RL 355 yL_undo : Cond) ∈ wAll := wg (wt_6 _ (List.mem_of_getElem? (i := 117) rfl)) rfl
theorem wm_1318 : (.static yL_undo : Cond) ∈ wAll := wg (wt_6 _ (List.mem_of_getElem? (i := 118) rfl)) rfl
theorem wm_1319 : (.codeWith yL_undo method_37_code 3 (Option.some FieldType.int) [(0, 8, 11, 91)] : Cond) ∈ wAll := wg (wt_6 _ (List.mem_of_getElem? (i := 119) rfl)) rfl
theorem wm_1320 : (.methodLink RL 122 yX8_undo : Cond) ∈ wAll := wg (wt_6 _ (List.mem_of_getElem? (i := 120) rfl)) rfl
theorem wm_1321 : (.instanceMethod yX8_undo : Cond) ∈ wAll := wg (wt_6 _ (List.mem_of_getElem? (i := 121) rfl)) rfl
theorem wm_1322 : (.selects RX8 yX8_undo yX8_undo : Cond) ∈ wAll := wg (wt_6 _ (List.mem_of_getElem? (i := 122) rfl)) rfl
theorem wm_1323 : (.code yX8_undo cX8_undo 1 (Option.some FieldType.int) : Cond) ∈ wAll := wg (wt_6 _ (List.mem_of_getElem? (i := 123) rfl)) rfl
theorem wm_1324 : (.methodLink RX8 329 yX3_takeBack : Cond) ∈ wAll := wg (wt_6 _ (List.mem_of_getElem? (i := 124) rfl)) rfl
theorem wm_1325 : (.instanceMethod yX3_takeBack : Cond) ∈ wAll := wg (wt_6 _ (List.mem_of_getElem? (i := 125) rfl)) rfl
theorem wm_1326 : (.selects RX3 yX3_takeBack yX3_takeBack : Cond) ∈ wAll := wg (wt_6 _ (List.mem_of_getElem? (i := 126) rfl)) rfl
theorem wm_1327 : (.code yX3_takeBack cX3_takeBack 2 (Option.none : Option FieldType) : Cond) ∈ wAll := wg (wt_6 _ (List.mem_of_getElem? (i := 127) rfl)) rfl
theorem wm_1328 : (.methodLink RL 359 yL_save : Cond) ∈ wAll := wg (wt_6 _ (List.mem_of_getElem? (i := 128) rfl)) rfl
theorem wm_1329 : (.static yL_save : Cond) ∈ wAll := wg (wt_6 _ (List.mem_of_getElem? (i := 129) rfl)) rfl
theorem wm_1330 : (.codeWith yL_save method_38_code 4 (Option.some FieldType.int) [(0, 9, 12, 49)] : Cond) ∈ wAll := wg (wt_6 _ (List.mem_of_getElem? (i := 130) rfl)) rfl
theorem wm_1331 : (.methodLink RL 126 yX8_save : Cond) ∈ wAll := wg (wt_6 _ (List.mem_of_getElem? (i := 131) rfl)) rfl
theorem wm_1332 : (.instanceMethod yX8_save : Cond) ∈ wAll := wg (wt_6 _ (List.mem_of_getElem? (i := 132) rfl)) rfl
theorem wm_1333 : (.selects RX8 yX8_save yX8_save : Cond) ∈ wAll := wg (wt_6 _ (List.mem_of_getElem? (i := 133) rfl)) rfl
theorem wm_1334 : (.code yX8_save cX8_save 2 (Option.some FieldType.int) : Cond) ∈ wAll := wg (wt_6 _ (List.mem_of_getElem? (i := 134) rfl)) rfl
theorem wm_1335 : (.methodLink RL 362 yL_restore : Cond) ∈ wAll := wg (wt_6 _ (List.mem_of_getElem? (i := 135) rfl)) rfl
theorem wm_1336 : (.static yL_restore : Cond) ∈ wAll := wg (wt_6 _ (List.mem_of_getElem? (i := 136) rfl)) rfl
theorem wm_1337 : (.codeWith yL_restore method_39_code 4 (Option.some FieldType.int) [(0, 9, 12, 49), (0, 9, 15, 132)] : Cond) ∈ wAll := wg (wt_6 _ (List.mem_of_getElem? (i := 137) rfl)) rfl
theorem wm_1338 : (.classLink RL 132 "java/util/NoSuchElementException" : Cond) ∈ wAll := wg (wt_6 _ (List.mem_of_getElem? (i := 138) rfl)) rfl
theorem wm_1339 : (.methodLink RL 129 yX8_restore : Cond) ∈ wAll := wg (wt_6 _ (List.mem_of_getElem? (i := 139) rfl)) rfl
theorem wm_1340 : (.instanceMethod yX8_restore : Cond) ∈ wAll := wg (wt_6 _ (List.mem_of_getElem? (i := 140) rfl)) rfl
theorem wm_1341 : (.selects RX8 yX8_restore yX8_restore : Cond) ∈ wAll := wg (wt_6 _ (List.mem_of_getElem? (i := 141) rfl)) rfl
theorem wm_1342 : (.code yX8_restore cX8_restore 2 (Option.some FieldType.int) : Cond) ∈ wAll := wg (wt_6 _ (List.mem_of_getElem? (i := 142) rfl)) rfl
theorem wm_1343 : (.classLink RX8 332 "java/util/NoSuchElementException" : Cond) ∈ wAll := wg (wt_6 _ (List.mem_of_getElem? (i := 143) rfl)) rfl
theorem wm_1344 : (.instantiable "java/util/NoSuchElementException" 6 : Cond) ∈ wAll := wg (wt_6 _ (List.mem_of_getElem? (i := 144) rfl)) rfl
theorem wm_1346 : (.selects "java/util/NoSuchElementException" ⟨"java/lang/Throwable", "fillInStackTrace", "(I)Ljava/lang/Throwable;"⟩ ⟨"java/lang/Throwable", "fillInStackTrace", "(I)Ljava/lang/Throwable;"⟩ : Cond) ∈ wAll := wg (wt_6 _ (List.mem_of_getElem? (i := 146) rfl)) rfl
theorem wm_1347 : (.lays "java/util/NoSuchElementException" "java/lang/Throwable" "cause" "Ljava/lang/Throwable;" : Cond) ∈ wAll := wg (wt_6 _ (List.mem_of_getElem? (i := 147) rfl)) rfl
theorem wm_1348 : (.lays "java/util/NoSuchElementException" "java/lang/Throwable" "stackTrace" "[Ljava/lang/StackTraceElement;" : Cond) ∈ wAll := wg (wt_6 _ (List.mem_of_getElem? (i := 148) rfl)) rfl
theorem wm_1349 : (.lays "java/util/NoSuchElementException" "java/lang/Throwable" "suppressedExceptions" "Ljava/util/List;" : Cond) ∈ wAll := wg (wt_6 _ (List.mem_of_getElem? (i := 149) rfl)) rfl
theorem wm_1350 : (.lays "java/util/NoSuchElementException" "java/lang/Throwable" "detailMessage" "Ljava/lang/String;" : Cond) ∈ wAll := wg (wt_6 _ (List.mem_of_getElem? (i := 150) rfl)) rfl
theorem wm_1351 : (.lays "java/util/NoSuchElementException" "java/lang/Throwable" "backtrace" "Ljava/lang/Object;" : Cond) ∈ wAll := wg (wt_6 _ (List.mem_of_getElem? (i := 151) rfl)) rfl
theorem wm_1353 : (.methodLink RX8 336 ⟨"java/util/NoSuchElementException", "<init>", "(Ljava/lang/String;)V"⟩ : Cond) ∈ wAll := wg (wt_6 _ (List.mem_of_getElem? (i := 153) rfl)) rfl
theorem wm_1354 : (.instanceMethod ⟨"java/util/NoSuchElementException", "<init>", "(Ljava/lang/String;)V"⟩ : Cond) ∈ wAll := wg (wt_6 _ (List.mem_of_getElem? (i := 154) rfl)) rfl
theorem wm_1355 : (.code ⟨"java/util/NoSuchElementException", "<init>", "(Ljava/lang/String;)V"⟩ prog_37_method_4_code 2 (Option.none : Option FieldType) : Cond) ∈ wAll := wg (wt_6 _ (List.mem_of_getElem? (i := 155) rfl)) rfl
theorem wm_1356 : (.methodLink "java/util/NoSuchElementException" 13 ⟨"java/lang/RuntimeException", "<init>", "(Ljava/lang/String;)V"⟩ : Cond) ∈ wAll := wg (wt_6 _ (List.mem_of_getElem? (i := 156) rfl)) rfl
theorem wm_1357 : (.lays "java/util/NoSuchElementException" "java/lang/Throwable" "depth" "I" : Cond) ∈ wAll := wg (wt_6 _ (List.mem_of_getElem? (i := 157) rfl)) rfl
theorem wm_1358 : (.superclass "java/util/NoSuchElementException" "java/lang/RuntimeException" : Cond) ∈ wAll := wg (wt_6 _ (List.mem_of_getElem? (i := 158) rfl)) rfl
theorem wm_1359 : (.methodLink RL 365 yL_writeBatch : Cond) ∈ wAll := wg (wt_6 _ (List.mem_of_getElem? (i := 159) rfl)) rfl
theorem wm_1360 : (.static yL_writeBatch : Cond) ∈ wAll := wg (wt_6 _ (List.mem_of_getElem? (i := 160) rfl)) rfl
theorem wm_1361 : (.codeWith yL_writeBatch method_40_code 4 (Option.some FieldType.int) [(0, 9, 12, 13)] : Cond) ∈ wAll := wg (wt_6 _ (List.mem_of_getElem? (i := 161) rfl)) rfl
theorem wm_1362 : (.methodLink RL 134 yX8_writeBatch : Cond) ∈ wAll := wg (wt_6 _ (List.mem_of_getElem? (i := 162) rfl)) rfl
theorem wm_1363 : (.instanceMethod yX8_writeBatch : Cond) ∈ wAll := wg (wt_6 _ (List.mem_of_getElem? (i := 163) rfl)) rfl
theorem wm_1364 : (.selects RX8 yX8_writeBatch yX8_writeBatch : Cond) ∈ wAll := wg (wt_6 _ (List.mem_of_getElem? (i := 164) rfl)) rfl
theorem wm_1365 : (.code yX8_writeBatch cX8_writeBatch 4 (Option.some FieldType.int) : Cond) ∈ wAll := wg (wt_6 _ (List.mem_of_getElem? (i := 165) rfl)) rfl
theorem wm_1366 : (.methodLink RX8 339 yJ4_setLength_d00df : Cond) ∈ wAll := wg (wt_6 _ (List.mem_of_getElem? (i := 166) rfl)) rfl
theorem wm_1367 : (.instanceMethod yJ4_setLength_d00df : Cond) ∈ wAll := wg (wt_6 _ (List.mem_of_getElem? (i := 167) rfl)) rfl
theorem wm_1368 : (.selects RJ4 yJ4_setLength_d00df yJ4_setLength_d00df : Cond) ∈ wAll := wg (wt_6 _ (List.mem_of_getElem? (i := 168) rfl)) rfl
theorem wm_1369 : (.code yJ4_setLength_d00df cJ4_setLength_d00df 2 (Option.none : Option FieldType) : Cond) ∈ wAll := wg (wt_6 _ (List.mem_of_getElem? (i := 169) rfl)) rfl
theorem wm_1370 : (.methodLink RJ4 333 yJ5_setLength_d00df : Cond) ∈ wAll := wg (wt_6 _ (List.mem_of_getElem? (i := 170) rfl)) rfl
theorem wm_1371 : (.instanceMethod yJ5_setLength_d00df : Cond) ∈ wAll := wg (wt_6 _ (List.mem_of_getElem? (i := 171) rfl)) rfl
theorem wm_1372 : (.code yJ5_setLength_d00df cJ5_setLength_d00df 2 (Option.none : Option FieldType) : Cond) ∈ wAll := wg (wt_6 _ (List.mem_of_getElem? (i := 172) rfl)) rfl
theorem wm_1373 : (.classLink RJ5 129 RJx7c733 : Cond) ∈ wAll := wg (wt_6 _ (List.mem_of_getElem? (i := 173) rfl)) rfl
theorem wm_1374 : (.instantiable RJx7c733 6 : Cond) ∈ wAll := wg (wt_6 _ (List.mem_of_getElem? (i := 174) rfl)) rfl
theorem wm_1375 : (.methodLink RJ5 131 yJx7c733_init_d00df : Cond) ∈ wAll := wg (wt_6 _ (List.mem_of_getElem? (i := 175) rfl)) rfl
theorem wm_1376 : (.instanceMethod yJx7c733_init_d00df : Cond) ∈ wAll := wg (wt_6 _ (List.mem_of_getElem? (i := 176) rfl)) rfl
theorem wm_1377 : (.code yJx7c733_init_d00df cJx7c733_init_d00df 2 (Option.none : Option FieldType) : Cond) ∈ wAll := wg (wt_6 _ (List.mem_of_getElem? (i := 177) rfl)) rfl
theorem wm_1378 : (.classLink RJx7c733 10 RJ4 : Cond) ∈ wAll := wg (wt_6 _ (List.mem_of_getElem? (i := 178) rfl)) rfl
theorem wm_1379 : (.methodLink RJx7c733 12 yJ4_init_da8c8 : Cond) ∈ wAll := wg (wt_6 _ (List.mem_of_getElem? (i := 179) rfl)) rfl
theorem wm_1381 : (.methodLink RJx7c733 15 yJ4_append_15ec4 : Cond) ∈ wAll := wg (wt_6 _ (List.mem_of_getElem? (i := 181) rfl)) rfl
theorem wm_1382 : (.instanceMethod yJ4_append_15ec4 : Cond) ∈ wAll := wg (wt_6 _ (List.mem_of_getElem? (i := 182) rfl)) rfl
theorem wm_1383 : (.selects RJ4 yJ4_append_15ec4 yJ4_append_15ec4 : Cond) ∈ wAll := wg (wt_6 _ (List.mem_of_getElem? (i := 183) rfl)) rfl
theorem wm_1384 : (.code yJ4_append_15ec4 cJ4_append_15ec4 2 (Option.some (FieldType.object "java/lang/StringBuilder")) : Cond) ∈ wAll := wg (wt_6 _ (List.mem_of_getElem? (i := 184) rfl)) rfl
theorem wm_1385 : (.methodLink RJ4 29 yJ5_append_cf1ce : Cond) ∈ wAll := wg (wt_6 _ (List.mem_of_getElem? (i := 185) rfl)) rfl
theorem wm_1386 : (.instanceMethod yJ5_append_cf1ce : Cond) ∈ wAll := wg (wt_6 _ (List.mem_of_getElem? (i := 186) rfl)) rfl
theorem wm_1387 : (.code yJ5_append_cf1ce cJ5_append_cf1ce 3 (Option.some (FieldType.object "java/lang/AbstractStringBuilder")) : Cond) ∈ wAll := wg (wt_6 _ (List.mem_of_getElem? (i := 187) rfl)) rfl
theorem wm_1388 : (.methodLink RJ5 204 yJ5_appendNull_278bc : Cond) ∈ wAll := wg (wt_6 _ (List.mem_of_getElem? (i := 188) rfl)) rfl
theorem wm_1390 : (.instanceMethod yJ5_appendNull_278bc : Cond) ∈ wAll := wg (wt_6 _ (List.mem_of_getElem? (i := 190) rfl)) rfl
theorem wm_1391 : (.code yJ5_appendNull_278bc cJ5_appendNull_278bc 3 (Option.some (FieldType.object "java/lang/AbstractStringBuilder")) : Cond) ∈ wAll := wg (wt_6 _ (List.mem_of_getElem? (i := 191) rfl)) rfl
theorem wm_1392 : (.methodLink RJ5 100 yJ5_ensureCapacityInternal_d00df : Cond) ∈ wAll := wg (wt_6 _ (List.mem_of_getElem? (i := 192) rfl)) rfl
theorem wm_1394 : (.instanceMethod yJ5_ensureCapacityInternal_d00df : Cond) ∈ wAll := wg (wt_6 _ (List.mem_of_getElem? (i := 194) rfl)) rfl
theorem wm_1395 : (.code yJ5_ensureCapacityInternal_d00df cJ5_ensureCapacityInternal_d00df 3 (Option.none : Option FieldType) : Cond) ∈ wAll := wg (wt_6 _ (List.mem_of_getElem? (i := 195) rfl)) rfl
theorem wm_1396 : (.methodLink RJ5 104 yJ5_newCapacity_0f7a4 : Cond) ∈ wAll := wg (wt_6 _ (List.mem_of_getElem? (i := 196) rfl)) rfl
theorem wm_1398 : (.instanceMethod yJ5_newCapacity_0f7a4 : Cond) ∈ wAll := wg (wt_6 _ (List.mem_of_getElem? (i := 198) rfl)) rfl
theorem wm_1399 : (.code yJ5_newCapacity_0f7a4 cJ5_newCapacity_0f7a4 6 (Option.some FieldType.int) : Cond) ∈ wAll := wg (wt_6 _ (List.mem_of_getElem? (i := 199) rfl)) rfl
theorem wm_1400 : (.methodLink RJ5 114 yJ8_newLength_cabcc : Cond) ∈ wAll := wg (wt_6 _ (List.mem_of_getElem? (i := 200) rfl)) rfl
theorem wm_1401 : (.static yJ8_newLength_cabcc : Cond) ∈ wAll := wg (wt_6 _ (List.mem_of_getElem? (i := 201) rfl)) rfl
theorem wm_1402 : (.code yJ8_newLength_cabcc cJ8_newLength_cabcc 4 (Option.some FieldType.int) : Cond) ∈ wAll := wg (wt_6 _ (List.mem_of_getElem? (i := 202) rfl)) rfl
theorem wm_1403 : (.methodLink RJ8 194 yJ9_max_7cf53 : Cond) ∈ wAll := wg (wt_6 _ (List.mem_of_getElem? (i := 203) rfl)) rfl
theorem wm_1404 : (.constant RJ8 200 (2147483639) : Cond) ∈ wAll := wg (wt_6 _ (List.mem_of_getElem? (i := 204) rfl)) rfl
theorem wm_1405 : (.methodLink RJ8 201 yJ8_hugeLength_7cf53 : Cond) ∈ wAll := wg (wt_6 _ (List.mem_of_getElem? (i := 205) rfl)) rfl
theorem wm_1406 : (.static yJ8_hugeLength_7cf53 : Cond) ∈ wAll := wg (wt_6 _ (List.mem_of_getElem? (i := 206) rfl)) rfl
theorem wm_1407 : (.code yJ8_hugeLength_7cf53 cJ8_hugeLength_7cf53 3 (Option.some FieldType.int) : Cond) ∈ wAll := wg (wt_6 _ (List.mem_of_getElem? (i := 207) rfl)) rfl
theorem wm_1408 : (.constant RJ5 39 (2147483647) : Cond) ∈ wAll := wg (wt_6 _ (List.mem_of_getElem? (i := 208) rfl)) rfl
theorem wm_1409 : (.methodLink RJ5 108 yJ7_copyOf_9075b : Cond) ∈ wAll := wg (wt_6 _ (List.mem_of_getElem? (i := 209) rfl)) rfl
theorem wm_1410 : (.static yJ7_copyOf_9075b : Cond) ∈ wAll := wg (wt_6 _ (List.mem_of_getElem? (i := 210) rfl)) rfl
theorem wm_1411 : (.code yJ7_copyOf_9075b cJ7_copyOf_9075b 3 (Option.some (FieldType.array FieldType.byte)) : Cond) ∈ wAll := wg (wt_6 _ (List.mem_of_getElem? (i := 211) rfl)) rfl
theorem wm_1412 : (.methodLink RJ7 310 ⟨"[B", "clone", "()Ljava/lang/Object;"⟩ : Cond) ∈ wAll := wg (wt_6 _ (List.mem_of_getElem? (i := 212) rfl)) rfl
theorem wm_1413 : (.sameMethod "[B" "java/lang/Object" "clone" "()Ljava/lang/Object;" : Cond) ∈ wAll := wg (wt_6 _ (List.mem_of_getElem? (i := 213) rfl)) rfl
theorem wm_1414 : (.native ⟨"java/lang/Object", "clone", "()Ljava/lang/Object;"⟩ : Cond) ∈ wAll := wg (wt_6 _ (List.mem_of_getElem? (i := 214) rfl)) rfl
theorem wm_1415 : (.instanceMethod ⟨"java/lang/Object", "clone", "()Ljava/lang/Object;"⟩ : Cond) ∈ wAll := wg (wt_6 _ (List.mem_of_getElem? (i := 215) rfl)) rfl
theorem wm_1416 : (.selects "[B" ⟨"[B", "clone", "()Ljava/lang/Object;"⟩ ⟨"java/lang/Object", "clone", "()Ljava/lang/Object;"⟩ : Cond) ∈ wAll := wg (wt_6 _ (List.mem_of_getElem? (i := 216) rfl)) rfl
theorem wm_1418 : (.classLink RJ7 311 "[B" : Cond) ∈ wAll := wg (wt_6 _ (List.mem_of_getElem? (i := 218) rfl)) rfl
theorem wm_1419 : (.methodLink RJ7 304 yJ9_min_7cf53 : Cond) ∈ wAll := wg (wt_6 _ (List.mem_of_getElem? (i := 219) rfl)) rfl
theorem wm_1420 : (.methodLink RJ7 150 ⟨"java/lang/System", "arraycopy", "(Ljava/lang/Object;ILjava/lang/Object;II)V"⟩ : Cond) ∈ wAll := wg (wt_6 _ (List.mem_of_getElem? (i := 220) rfl)) rfl
theorem wm_1421 : (.methodLink RJ5 83 yJ5_isLatin1_aae02 : Cond) ∈ wAll := wg (wt_6 _ (List.mem_of_getElem? (i := 221) rfl)) rfl
theorem wm_1422 : (.instanceMethod yJ5_isLatin1_aae02 : Cond) ∈ wAll := wg (wt_6 _ (List.mem_of_getElem? (i := 222) rfl)) rfl
theorem wm_1423 : (.sameMethod "java/lang/AbstractStringBuilder" "java/lang/AbstractStringBuilder" "isLatin1" "()Z" : Cond) ∈ wAll := wg (wt_6 _ (List.mem_of_getElem? (i := 223) rfl)) rfl
theorem wm_1424 : (.selects RJ4 yJ5_isLatin1_aae02 yJ5_isLatin1_aae02 : Cond) ∈ wAll := wg (wt_6 _ (List.mem_of_getElem? (i := 224) rfl)) rfl
theorem wm_1425 : (.code yJ5_isLatin1_aae02 cJ5_isLatin1_aae02 1 (Option.some FieldType.boolean) : Cond) ∈ wAll := wg (wt_6 _ (List.mem_of_getElem? (i := 225) rfl)) rfl
theorem wm_1426 : (.methodLink RJ5 226 yJ2_putCharsAt_cd4e5 : Cond) ∈ wAll := wg (wt_6 _ (List.mem_of_getElem? (i := 226) rfl)) rfl
theorem wm_1427 : (.static yJ2_putCharsAt_cd4e5 : Cond) ∈ wAll := wg (wt_6 _ (List.mem_of_getElem? (i := 227) rfl)) rfl
theorem wm_1428 : (.code yJ2_putCharsAt_cd4e5 cJ2_putCharsAt_cd4e5 7 (Option.some FieldType.int) : Cond) ∈ wAll := wg (wt_6 _ (List.mem_of_getElem? (i := 228) rfl)) rfl
theorem wm_1429 : (.methodLink RJ2 96 yJ2_checkBoundsBeginEnd_d044e : Cond) ∈ wAll := wg (wt_6 _ (List.mem_of_getElem? (i := 229) rfl)) rfl
theorem wm_1430 : (.static yJ2_checkBoundsBeginEnd_d044e : Cond) ∈ wAll := wg (wt_6 _ (List.mem_of_getElem? (i := 230) rfl)) rfl
theorem wm_1431 : (.code yJ2_checkBoundsBeginEnd_d044e cJ2_checkBoundsBeginEnd_d044e 3 (Option.none : Option FieldType) : Cond) ∈ wAll := wg (wt_6 _ (List.mem_of_getElem? (i := 231) rfl)) rfl
theorem wm_1432 : (.methodLink RJ2 241 yJ0_checkBoundsBeginEnd_23922 : Cond) ∈ wAll := wg (wt_6 _ (List.mem_of_getElem? (i := 232) rfl)) rfl
theorem wm_1433 : (.static yJ0_checkBoundsBeginEnd_23922 : Cond) ∈ wAll := wg (wt_6 _ (List.mem_of_getElem? (i := 233) rfl)) rfl
theorem wm_1434 : (.code yJ0_checkBoundsBeginEnd_23922 cJ0_checkBoundsBeginEnd_23922 3 (Option.none : Option FieldType) : Cond) ∈ wAll := wg (wt_6 _ (List.mem_of_getElem? (i := 234) rfl)) rfl
theorem wm_1435 : (.methodLink RJ0 1062 yJ3_checkFromToIndex_8c36e : Cond) ∈ wAll := wg (wt_6 _ (List.mem_of_getElem? (i := 235) rfl)) rfl
theorem wm_1436 : (.static yJ3_checkFromToIndex_8c36e : Cond) ∈ wAll := wg (wt_6 _ (List.mem_of_getElem? (i := 236) rfl)) rfl
theorem wm_1437 : (.code yJ3_checkFromToIndex_8c36e cJ3_checkFromToIndex_8c36e 4 (Option.some FieldType.int) : Cond) ∈ wAll := wg (wt_6 _ (List.mem_of_getElem? (i := 237) rfl)) rfl
theorem wm_1438 : (.methodLink RJ2 111 yJ2_putChar_b72d1 : Cond) ∈ wAll := wg (wt_6 _ (List.mem_of_getElem? (i := 238) rfl)) rfl
theorem wm_1439 : (.static yJ2_putChar_b72d1 : Cond) ∈ wAll := wg (wt_6 _ (List.mem_of_getElem? (i := 239) rfl)) rfl
theorem wm_1440 : (.code yJ2_putChar_b72d1 cJ2_putChar_b72d1 3 (Option.none : Option FieldType) : Cond) ∈ wAll := wg (wt_7 _ (List.mem_of_getElem? (i := 0) rfl)) rfl
theorem wm_1441 : (.methodLink RJ5 32 yJ0_length_8abf5 : Cond) ∈ wAll := wg (wt_7 _ (List.mem_of_getElem? (i := 1) rfl)) rfl
theorem wm_1442 : (.methodLink RJ5 208 yJ5_putStringAt_47b60 : Cond) ∈ wAll := wg (wt_7 _ (List.mem_of_getElem? (i := 2) rfl)) rfl
theorem wm_1444 : (.instanceMethod yJ5_putStringAt_47b60 : Cond) ∈ wAll := wg (wt_7 _ (List.mem_of_getElem? (i := 4) rfl)) rfl
theorem wm_1445 : (.code yJ5_putStringAt_47b60 cJ5_putStringAt_47b60 3 (Option.none : Option FieldType) : Cond) ∈ wAll := wg (wt_7 _ (List.mem_of_getElem? (i := 5) rfl)) rfl
theorem wm_1446 : (.methodLink RJ5 397 yJ5_inflateIfNeededFor_a7421 : Cond) ∈ wAll := wg (wt_7 _ (List.mem_of_getElem? (i := 6) rfl)) rfl
theorem wm_1448 : (.instanceMethod yJ5_inflateIfNeededFor_a7421 : Cond) ∈ wAll := wg (wt_7 _ (List.mem_of_getElem? (i := 8) rfl)) rfl
theorem wm_1449 : (.code yJ5_inflateIfNeededFor_a7421 cJ5_inflateIfNeededFor_a7421 2 (Option.none : Option FieldType) : Cond) ∈ wAll := wg (wt_7 _ (List.mem_of_getElem? (i := 9) rfl)) rfl
theorem wm_1450 : (.methodLink RJ5 40 yJ0_coder_7d493 : Cond) ∈ wAll := wg (wt_7 _ (List.mem_of_getElem? (i := 10) rfl)) rfl
theorem wm_1451 : (.methodLink RJ5 195 yJ5_inflate_da8c8 : Cond) ∈ wAll := wg (wt_7 _ (List.mem_of_getElem? (i := 11) rfl)) rfl
theorem wm_1453 : (.instanceMethod yJ5_inflate_da8c8 : Cond) ∈ wAll := wg (wt_7 _ (List.mem_of_getElem? (i := 13) rfl)) rfl
theorem wm_1454 : (.code yJ5_inflate_da8c8 cJ5_inflate_da8c8 2 (Option.none : Option FieldType) : Cond) ∈ wAll := wg (wt_7 _ (List.mem_of_getElem? (i := 14) rfl)) rfl
theorem wm_1455 : (.methodLink RJ5 125 yJ1_inflate_0e8fd : Cond) ∈ wAll := wg (wt_7 _ (List.mem_of_getElem? (i := 15) rfl)) rfl
theorem wm_1456 : (.static yJ1_inflate_0e8fd : Cond) ∈ wAll := wg (wt_7 _ (List.mem_of_getElem? (i := 16) rfl)) rfl
theorem wm_1457 : (.code yJ1_inflate_0e8fd cJ1_inflate_0e8fd 5 (Option.none : Option FieldType) : Cond) ∈ wAll := wg (wt_7 _ (List.mem_of_getElem? (i := 17) rfl)) rfl
theorem wm_1458 : (.methodLink RJ1 240 yJ2_inflate_0e8fd : Cond) ∈ wAll := wg (wt_7 _ (List.mem_of_getElem? (i := 18) rfl)) rfl
theorem wm_1459 : (.static yJ2_inflate_0e8fd : Cond) ∈ wAll := wg (wt_7 _ (List.mem_of_getElem? (i := 19) rfl)) rfl
theorem wm_1460 : (.code yJ2_inflate_0e8fd cJ2_inflate_0e8fd 6 (Option.none : Option FieldType) : Cond) ∈ wAll := wg (wt_7 _ (List.mem_of_getElem? (i := 20) rfl)) rfl
theorem wm_1461 : (.methodLink RJ2 173 yJ2_checkBoundsOffCount_d044e : Cond) ∈ wAll := wg (wt_7 _ (List.mem_of_getElem? (i := 21) rfl)) rfl
theorem wm_1462 : (.static yJ2_checkBoundsOffCount_d044e : Cond) ∈ wAll := wg (wt_7 _ (List.mem_of_getElem? (i := 22) rfl)) rfl
theorem wm_1463 : (.code yJ2_checkBoundsOffCount_d044e cJ2_checkBoundsOffCount_d044e 3 (Option.none : Option FieldType) : Cond) ∈ wAll := wg (wt_7 _ (List.mem_of_getElem? (i := 23) rfl)) rfl
theorem wm_1464 : (.methodLink RJ2 419 yJ0_checkBoundsOffCount_cabcc : Cond) ∈ wAll := wg (wt_7 _ (List.mem_of_getElem? (i := 24) rfl)) rfl
theorem wm_1465 : (.static yJ0_checkBoundsOffCount_cabcc : Cond) ∈ wAll := wg (wt_7 _ (List.mem_of_getElem? (i := 25) rfl)) rfl
theorem wm_1466 : (.code yJ0_checkBoundsOffCount_cabcc cJ0_checkBoundsOffCount_cabcc 3 (Option.some FieldType.int) : Cond) ∈ wAll := wg (wt_7 _ (List.mem_of_getElem? (i := 26) rfl)) rfl
theorem wm_1467 : (.methodLink RJ0 1065 yJ3_checkFromIndexSize_8c36e : Cond) ∈ wAll := wg (wt_7 _ (List.mem_of_getElem? (i := 27) rfl)) rfl
theorem wm_1468 : (.static yJ3_checkFromIndexSize_8c36e : Cond) ∈ wAll := wg (wt_7 _ (List.mem_of_getElem? (i := 28) rfl)) rfl
theorem wm_1469 : (.code yJ3_checkFromIndexSize_8c36e cJ3_checkFromIndexSize_8c36e 4 (Option.some FieldType.int) : Cond) ∈ wAll := wg (wt_7 _ (List.mem_of_getElem? (i := 29) rfl)) rfl
theorem wm_1470 : (.methodLink RJ5 399 yJ0_getBytes_840e7 : Cond) ∈ wAll := wg (wt_7 _ (List.mem_of_getElem? (i := 30) rfl)) rfl
theorem wm_1471 : (.instanceMethod yJ0_getBytes_840e7 : Cond) ∈ wAll := wg (wt_7 _ (List.mem_of_getElem? (i := 31) rfl)) rfl
theorem wm_1472 : (.selects RJ0 yJ0_getBytes_840e7 yJ0_getBytes_840e7 : Cond) ∈ wAll := wg (wt_7 _ (List.mem_of_getElem? (i := 32) rfl)) rfl
theorem wm_1473 : (.code yJ0_getBytes_840e7 cJ0_getBytes_840e7 4 (Option.none : Option FieldType) : Cond) ∈ wAll := wg (wt_7 _ (List.mem_of_getElem? (i := 33) rfl)) rfl
theorem wm_1474 : (.methodLink RJ0 212 ⟨"java/lang/System", "arraycopy", "(Ljava/lang/Object;ILjava/lang/Object;II)V"⟩ : Cond) ∈ wAll := wg (wt_7 _ (List.mem_of_getElem? (i := 34) rfl)) rfl
theorem wm_1475 : (.methodLink RJ0 106 yJ1_inflate_0e8fd : Cond) ∈ wAll := wg (wt_7 _ (List.mem_of_getElem? (i := 35) rfl)) rfl
theorem wm_1476 : (.methodLink RJx7c733 19 yJ4_append_bf812 : Cond) ∈ wAll := wg (wt_7 _ (List.mem_of_getElem? (i := 36) rfl)) rfl
theorem wm_1477 : (.instanceMethod yJ4_append_bf812 : Cond) ∈ wAll := wg (wt_7 _ (List.mem_of_getElem? (i := 37) rfl)) rfl
theorem wm_1478 : (.selects RJ4 yJ4_append_bf812 yJ4_append_bf812 : Cond) ∈ wAll := wg (wt_7 _ (List.mem_of_getElem? (i := 38) rfl)) rfl
theorem wm_1479 : (.code yJ4_append_bf812 cJ4_append_bf812 2 (Option.some (FieldType.object "java/lang/StringBuilder")) : Cond) ∈ wAll := wg (wt_7 _ (List.mem_of_getElem? (i := 39) rfl)) rfl
theorem wm_1480 : (.methodLink RJ4 53 yJ5_append_c97b9 : Cond) ∈ wAll := wg (wt_7 _ (List.mem_of_getElem? (i := 40) rfl)) rfl
theorem wm_1481 : (.instanceMethod yJ5_append_c97b9 : Cond) ∈ wAll := wg (wt_7 _ (List.mem_of_getElem? (i := 41) rfl)) rfl
theorem wm_1482 : (.code yJ5_append_c97b9 cJ5_append_c97b9 4 (Option.some (FieldType.object "java/lang/AbstractStringBuilder")) : Cond) ∈ wAll := wg (wt_7 _ (List.mem_of_getElem? (i := 42) rfl)) rfl
theorem wm_1483 : (.methodLink RJ5 245 yJ6_stringSize_0f7a4 : Cond) ∈ wAll := wg (wt_7 _ (List.mem_of_getElem? (i := 43) rfl)) rfl
theorem wm_1484 : (.static yJ6_stringSize_0f7a4 : Cond) ∈ wAll := wg (wt_7 _ (List.mem_of_getElem? (i := 44) rfl)) rfl
theorem wm_1485 : (.code yJ6_stringSize_0f7a4 cJ6_stringSize_0f7a4 4 (Option.some FieldType.int) : Cond) ∈ wAll := wg (wt_7 _ (List.mem_of_getElem? (i := 45) rfl)) rfl
theorem wm_1486 : (.methodLink RJ5 248 yJ6_getChars_ba4f3 : Cond) ∈ wAll := wg (wt_7 _ (List.mem_of_getElem? (i := 46) rfl)) rfl
theorem wm_1487 : (.static yJ6_getChars_ba4f3 : Cond) ∈ wAll := wg (wt_7 _ (List.mem_of_getElem? (i := 47) rfl)) rfl
theorem wm_1488 : (.code yJ6_getChars_ba4f3 cJ6_getChars_ba4f3 7 (Option.some FieldType.int) : Cond) ∈ wAll := wg (wt_7 _ (List.mem_of_getElem? (i := 48) rfl)) rfl
theorem wm_1489 : (.fieldLink RJ6 83 "java/lang/Integer" "DigitOnes" "[B" : Cond) ∈ wAll := wg (wt_7 _ (List.mem_of_getElem? (i := 49) rfl)) rfl
theorem wm_1491 : (.fieldLink RJ6 87 "java/lang/Integer" "DigitTens" "[B" : Cond) ∈ wAll := wg (wt_7 _ (List.mem_of_getElem? (i := 51) rfl)) rfl
theorem wm_1493 : (.methodLink RJ5 251 yJ2_getChars_46870 : Cond) ∈ wAll := wg (wt_7 _ (List.mem_of_getElem? (i := 53) rfl)) rfl
theorem wm_1494 : (.static yJ2_getChars_46870 : Cond) ∈ wAll := wg (wt_7 _ (List.mem_of_getElem? (i := 54) rfl)) rfl
theorem wm_1495 : (.code yJ2_getChars_46870 cJ2_getChars_46870 5 (Option.some FieldType.int) : Cond) ∈ wAll := wg (wt_7 _ (List.mem_of_getElem? (i := 55) rfl)) rfl
theorem wm_1496 : (.methodLink RJ2 393 yJ2_getChars_ba4f3 : Cond) ∈ wAll := wg (wt_7 _ (List.mem_of_getElem? (i := 56) rfl)) rfl
theorem wm_1497 : (.static yJ2_getChars_ba4f3 : Cond) ∈ wAll := wg (wt_7 _ (List.mem_of_getElem? (i := 57) rfl)) rfl
theorem wm_1498 : (.code yJ2_getChars_ba4f3 cJ2_getChars_ba4f3 7 (Option.some FieldType.int) : Cond) ∈ wAll := wg (wt_7 _ (List.mem_of_getElem? (i := 58) rfl)) rfl
theorem wm_1499 : (.fieldLink RJ2 403 "java/lang/Integer" "DigitOnes" "[B" : Cond) ∈ wAll := wg (wt_7 _ (List.mem_of_getElem? (i := 59) rfl)) rfl
theorem wm_1500 : (.fieldLink RJ2 407 "java/lang/Integer" "DigitTens" "[B" : Cond) ∈ wAll := wg (wt_7 _ (List.mem_of_getElem? (i := 60) rfl)) rfl
theorem wm_1501 : (.methodLink RJx7c733 22 yJ4_toString_0e30d : Cond) ∈ wAll := wg (wt_7 _ (List.mem_of_getElem? (i := 61) rfl)) rfl
theorem wm_1502 : (.instanceMethod yJ4_toString_0e30d : Cond) ∈ wAll := wg (wt_7 _ (List.mem_of_getElem? (i := 62) rfl)) rfl
theorem wm_1503 : (.selects RJ4 yJ4_toString_0e30d yJ4_toString_0e30d : Cond) ∈ wAll := wg (wt_7 _ (List.mem_of_getElem? (i := 63) rfl)) rfl
theorem wm_1504 : (.code yJ4_toString_0e30d cJ4_toString_0e30d 1 (Option.some (FieldType.object "java/lang/String")) : Cond) ∈ wAll := wg (wt_7 _ (List.mem_of_getElem? (i := 64) rfl)) rfl
theorem wm_1505 : (.classLink RJ4 18 RJ0 : Cond) ∈ wAll := wg (wt_7 _ (List.mem_of_getElem? (i := 65) rfl)) rfl
theorem wm_1506 : (.instantiable RJ0 4 : Cond) ∈ wAll := wg (wt_7 _ (List.mem_of_getElem? (i := 66) rfl)) rfl
theorem wm_1507 : (.methodLink RJ4 137 yJ0_init_81219 : Cond) ∈ wAll := wg (wt_7 _ (List.mem_of_getElem? (i := 67) rfl)) rfl
theorem wm_1508 : (.instanceMethod yJ0_init_81219 : Cond) ∈ wAll := wg (wt_7 _ (List.mem_of_getElem? (i := 68) rfl)) rfl
theorem wm_1509 : (.code yJ0_init_81219 cJ0_init_81219 2 (Option.none : Option FieldType) : Cond) ∈ wAll := wg (wt_7 _ (List.mem_of_getElem? (i := 69) rfl)) rfl
theorem wm_1510 : (.methodLink RJ0 489 yJ0_init_db425 : Cond) ∈ wAll := wg (wt_7 _ (List.mem_of_getElem? (i := 70) rfl)) rfl
theorem wm_1511 : (.instanceMethod yJ0_init_db425 : Cond) ∈ wAll := wg (wt_7 _ (List.mem_of_getElem? (i := 71) rfl)) rfl
theorem wm_1512 : (.code yJ0_init_db425 cJ0_init_db425 5 (Option.none : Option FieldType) : Cond) ∈ wAll := wg (wt_7 _ (List.mem_of_getElem? (i := 72) rfl)) rfl
theorem wm_1513 : (.methodLink RJ0 1 ⟨"java/lang/Object", "<init>", "()V"⟩ : Cond) ∈ wAll := wg (wt_7 _ (List.mem_of_getElem? (i := 73) rfl)) rfl
theorem wm_1514 : (.methodLink RJ0 552 yJ5_getValue_6d5f1 : Cond) ∈ wAll := wg (wt_7 _ (List.mem_of_getElem? (i := 74) rfl)) rfl
theorem wm_1515 : (.instanceMethod yJ5_getValue_6d5f1 : Cond) ∈ wAll := wg (wt_7 _ (List.mem_of_getElem? (i := 75) rfl)) rfl
theorem wm_1516 : (.sameMethod "java/lang/AbstractStringBuilder" "java/lang/AbstractStringBuilder" "getValue" "()[B" : Cond) ∈ wAll := wg (wt_7 _ (List.mem_of_getElem? (i := 76) rfl)) rfl
theorem wm_1517 : (.selects RJ4 yJ5_getValue_6d5f1 yJ5_getValue_6d5f1 : Cond) ∈ wAll := wg (wt_7 _ (List.mem_of_getElem? (i := 77) rfl)) rfl
theorem wm_1518 : (.code yJ5_getValue_6d5f1 cJ5_getValue_6d5f1 1 (Option.some (FieldType.array FieldType.byte)) : Cond) ∈ wAll := wg (wt_7 _ (List.mem_of_getElem? (i := 78) rfl)) rfl
theorem wm_1519 : (.methodLink RJ0 549 yJ5_length_8abf5 : Cond) ∈ wAll := wg (wt_7 _ (List.mem_of_getElem? (i := 79) rfl)) rfl
theorem wm_1520 : (.methodLink RJ0 1047 yJ5_isLatin1_aae02 : Cond) ∈ wAll := wg (wt_7 _ (List.mem_of_getElem? (i := 80) rfl)) rfl
theorem wm_1521 : (.methodLink RJ0 54 yJ7_copyOfRange_39247 : Cond) ∈ wAll := wg (wt_7 _ (List.mem_of_getElem? (i := 81) rfl)) rfl
theorem wm_1522 : (.static yJ7_copyOfRange_39247 : Cond) ∈ wAll := wg (wt_7 _ (List.mem_of_getElem? (i := 82) rfl)) rfl
theorem wm_1523 : (.code yJ7_copyOfRange_39247 cJ7_copyOfRange_39247 3 (Option.some (FieldType.array FieldType.byte)) : Cond) ∈ wAll := wg (wt_7 _ (List.mem_of_getElem? (i := 83) rfl)) rfl
theorem wm_1524 : (.methodLink RJ7 339 yJ7_copyOfRangeByte_39247 : Cond) ∈ wAll := wg (wt_7 _ (List.mem_of_getElem? (i := 84) rfl)) rfl
theorem wm_1525 : (.static yJ7_copyOfRangeByte_39247 : Cond) ∈ wAll := wg (wt_7 _ (List.mem_of_getElem? (i := 85) rfl)) rfl
theorem wm_1526 : (.code yJ7_copyOfRangeByte_39247 cJ7_copyOfRangeByte_39247 5 (Option.some (FieldType.array FieldType.byte)) : Cond) ∈ wAll := wg (wt_7 _ (List.mem_of_getElem? (i := 86) rfl)) rfl
theorem wm_1527 : (.methodLink RJ7 343 yJ7_checkLength_df160 : Cond) ∈ wAll := wg (wt_7 _ (List.mem_of_getElem? (i := 87) rfl)) rfl
theorem wm_1528 : (.static yJ7_checkLength_df160 : Cond) ∈ wAll := wg (wt_7 _ (List.mem_of_getElem? (i := 88) rfl)) rfl
theorem wm_1529 : (.code yJ7_checkLength_df160 cJ7_checkLength_df160 2 (Option.none : Option FieldType) : Cond) ∈ wAll := wg (wt_7 _ (List.mem_of_getElem? (i := 89) rfl)) rfl
theorem wm_1530 : (.classLink RJ7 43 "java/lang/IllegalArgumentException" : Cond) ∈ wAll := wg (wt_7 _ (List.mem_of_getElem? (i := 90) rfl)) rfl
theorem wm_1531 : (.classLink RJ7 45 RJ4 : Cond) ∈ wAll := wg (wt_7 _ (List.mem_of_getElem? (i := 91) rfl)) rfl
theorem wm_1532 : (.methodLink RJ7 47 yJ4_init_da8c8 : Cond) ∈ wAll := wg (wt_7 _ (List.mem_of_getElem? (i := 92) rfl)) rfl
theorem wm_1533 : (.methodLink RJ7 54 yJ4_append_bf812 : Cond) ∈ wAll := wg (wt_7 _ (List.mem_of_getElem? (i := 93) rfl)) rfl
theorem wm_1535 : (.methodLink RJ7 50 yJ4_append_15ec4 : Cond) ∈ wAll := wg (wt_7 _ (List.mem_of_getElem? (i := 95) rfl)) rfl
theorem wm_1536 : (.methodLink RJ7 61 yJ4_toString_0e30d : Cond) ∈ wAll := wg (wt_7 _ (List.mem_of_getElem? (i := 96) rfl)) rfl
theorem wm_1537 : (.methodLink RJ7 65 ⟨"java/lang/IllegalArgumentException", "<init>", "(Ljava/lang/String;)V"⟩ : Cond) ∈ wAll := wg (wt_7 _ (List.mem_of_getElem? (i := 97) rfl)) rfl
theorem wm_1538 : (.methodLink RJ0 1051 yJ2_compress_39247 : Cond) ∈ wAll := wg (wt_7 _ (List.mem_of_getElem? (i := 98) rfl)) rfl
theorem wm_1539 : (.static yJ2_compress_39247 : Cond) ∈ wAll := wg (wt_7 _ (List.mem_of_getElem? (i := 99) rfl)) rfl
theorem wm_1540 : (.code yJ2_compress_39247 cJ2_compress_39247 6 (Option.some (FieldType.array FieldType.byte)) : Cond) ∈ wAll := wg (wt_7 _ (List.mem_of_getElem? (i := 100) rfl)) rfl
theorem wm_1541 : (.methodLink RJ2 123 yJ2_compress_5af95 : Cond) ∈ wAll := wg (wt_7 _ (List.mem_of_getElem? (i := 101) rfl)) rfl
theorem wm_1542 : (.static yJ2_compress_5af95 : Cond) ∈ wAll := wg (wt_7 _ (List.mem_of_getElem? (i := 102) rfl)) rfl
theorem wm_1543 : (.code yJ2_compress_5af95 cJ2_compress_5af95 7 (Option.some FieldType.int) : Cond) ∈ wAll := wg (wt_7 _ (List.mem_of_getElem? (i := 103) rfl)) rfl
theorem wm_1544 : (.methodLink RJ2 126 yJ7_copyOfRange_39247 : Cond) ∈ wAll := wg (wt_7 _ (List.mem_of_getElem? (i := 104) rfl)) rfl
theorem wm_1545 : (.methodLink RJ0 47 yJ2_coderFromArrayLen_85cad : Cond) ∈ wAll := wg (wt_7 _ (List.mem_of_getElem? (i := 105) rfl)) rfl
theorem wm_1546 : (.static yJ2_coderFromArrayLen_85cad : Cond) ∈ wAll := wg (wt_7 _ (List.mem_of_getElem? (i := 106) rfl)) rfl
theorem wm_1547 : (.code yJ2_coderFromArrayLen_85cad cJ2_coderFromArrayLen_85cad 2 (Option.some FieldType.byte) : Cond) ∈ wAll := wg (wt_7 _ (List.mem_of_getElem? (i := 107) rfl)) rfl
theorem wm_1548 : (.fieldLink RJ0 9 "java/lang/String" "value" "[B" : Cond) ∈ wAll := wg (wt_7 _ (List.mem_of_getElem? (i := 108) rfl)) rfl
theorem wm_1549 : (.fieldLink RJ0 15 "java/lang/String" "coder" "B" : Cond) ∈ wAll := wg (wt_7 _ (List.mem_of_getElem? (i := 109) rfl)) rfl
theorem wm_1550 : (.laysFinal "java/lang/String" "java/lang/String" "value" "[B" : Cond) ∈ wAll := wg (wt_7 _ (List.mem_of_getElem? (i := 110) rfl)) rfl
theorem wm_1552 : (.laysFinal "java/lang/String" "java/lang/String" "coder" "B" : Cond) ∈ wAll := wg (wt_7 _ (List.mem_of_getElem? (i := 112) rfl)) rfl
theorem wm_1554 : (.lays "java/lang/String" "java/lang/String" "hash" "I" : Cond) ∈ wAll := wg (wt_7 _ (List.mem_of_getElem? (i := 114) rfl)) rfl
theorem wm_1556 : (.lays "java/lang/String" "java/lang/String" "hashIsZero" "Z" : Cond) ∈ wAll := wg (wt_7 _ (List.mem_of_getElem? (i := 116) rfl)) rfl
theorem wm_1558 : (.superclass "java/lang/String" "java/lang/Object" : Cond) ∈ wAll := wg (wt_7 _ (List.mem_of_getElem? (i := 118) rfl)) rfl
theorem wm_1559 : (.methodLink RJx7c733 7 ⟨"java/lang/IndexOutOfBoundsException", "<init>", "(Ljava/lang/String;)V"⟩ : Cond) ∈ wAll := wg (wt_7 _ (List.mem_of_getElem? (i := 119) rfl)) rfl
theorem wm_1560 : (.lays "java/lang/StringIndexOutOfBoundsException" "java/lang/Throwable" "backtrace" "Ljava/lang/Object;" : Cond) ∈ wAll := wg (wt_7 _ (List.mem_of_getElem? (i := 120) rfl)) rfl
theorem wm_1561 : (.lays "java/lang/StringIndexOutOfBoundsException" "java/lang/Throwable" "detailMessage" "Ljava/lang/String;" : Cond) ∈ wAll := wg (wt_7 _ (List.mem_of_getElem? (i := 121) rfl)) rfl
theorem wm_1562 : (.lays "java/lang/StringIndexOutOfBoundsException" "java/lang/Throwable" "cause" "Ljava/lang/Throwable;" : Cond) ∈ wAll := wg (wt_7 _ (List.mem_of_getElem? (i := 122) rfl)) rfl
theorem wm_1563 : (.lays "java/lang/StringIndexOutOfBoundsException" "java/lang/Throwable" "stackTrace" "[Ljava/lang/StackTraceElement;" : Cond) ∈ wAll := wg (wt_7 _ (List.mem_of_getElem? (i := 123) rfl)) rfl
theorem wm_1564 : (.lays "java/lang/StringIndexOutOfBoundsException" "java/lang/Throwable" "depth" "I" : Cond) ∈ wAll := wg (wt_7 _ (List.mem_of_getElem? (i := 124) rfl)) rfl
theorem wm_1565 : (.lays "java/lang/StringIndexOutOfBoundsException" "java/lang/Throwable" "suppressedExceptions" "Ljava/util/List;" : Cond) ∈ wAll := wg (wt_7 _ (List.mem_of_getElem? (i := 125) rfl)) rfl
theorem wm_1566 : (.superclass "java/lang/StringIndexOutOfBoundsException" "java/lang/IndexOutOfBoundsException" : Cond) ∈ wAll := wg (wt_7 _ (List.mem_of_getElem? (i := 126) rfl)) rfl
theorem wm_1567 : (.methodLink RJ5 133 yJ1_fillNull_b72d1 : Cond) ∈ wAll := wg (wt_7 _ (List.mem_of_getElem? (i := 127) rfl)) rfl
theorem wm_1568 : (.static yJ1_fillNull_b72d1 : Cond) ∈ wAll := wg (wt_7 _ (List.mem_of_getElem? (i := 128) rfl)) rfl
theorem wm_1569 : (.code yJ1_fillNull_b72d1 cJ1_fillNull_b72d1 3 (Option.none : Option FieldType) : Cond) ∈ wAll := wg (wt_7 _ (List.mem_of_getElem? (i := 129) rfl)) rfl
theorem wm_1570 : (.methodLink RJ1 236 yJ7_fill_eb02e : Cond) ∈ wAll := wg (wt_7 _ (List.mem_of_getElem? (i := 130) rfl)) rfl
theorem wm_1571 : (.static yJ7_fill_eb02e : Cond) ∈ wAll := wg (wt_7 _ (List.mem_of_getElem? (i := 131) rfl)) rfl
theorem wm_1572 : (.code yJ7_fill_eb02e cJ7_fill_eb02e 5 (Option.none : Option FieldType) : Cond) ∈ wAll := wg (wt_7 _ (List.mem_of_getElem? (i := 132) rfl)) rfl
theorem wm_1573 : (.methodLink RJ7 13 yJ7_rangeCheck_23922 : Cond) ∈ wAll := wg (wt_7 _ (List.mem_of_getElem? (i := 133) rfl)) rfl
theorem wm_1574 : (.static yJ7_rangeCheck_23922 : Cond) ∈ wAll := wg (wt_7 _ (List.mem_of_getElem? (i := 134) rfl)) rfl
theorem wm_1575 : (.code yJ7_rangeCheck_23922 cJ7_rangeCheck_23922 3 (Option.none : Option FieldType) : Cond) ∈ wAll := wg (wt_7 _ (List.mem_of_getElem? (i := 135) rfl)) rfl
theorem wm_1579 : (.classLink RJ7 68 RJx00060 : Cond) ∈ wAll := wg (wt_7 _ (List.mem_of_getElem? (i := 139) rfl)) rfl
theorem wm_1580 : (.instantiable RJx00060 6 : Cond) ∈ wAll := wg (wt_7 _ (List.mem_of_getElem? (i := 140) rfl)) rfl
theorem wm_1584 : (.selects RJx00060 ⟨"java/lang/Throwable", "fillInStackTrace", "(I)Ljava/lang/Throwable;"⟩ ⟨"java/lang/Throwable", "fillInStackTrace", "(I)Ljava/lang/Throwable;"⟩ : Cond) ∈ wAll := wg (wt_7 _ (List.mem_of_getElem? (i := 144) rfl)) rfl
theorem wm_1585 : (.lays "java/lang/ArrayIndexOutOfBoundsException" "java/lang/Throwable" "cause" "Ljava/lang/Throwable;" : Cond) ∈ wAll := wg (wt_7 _ (List.mem_of_getElem? (i := 145) rfl)) rfl
theorem wm_1586 : (.lays "java/lang/ArrayIndexOutOfBoundsException" "java/lang/Throwable" "stackTrace" "[Ljava/lang/StackTraceElement;" : Cond) ∈ wAll := wg (wt_7 _ (List.mem_of_getElem? (i := 146) rfl)) rfl
theorem wm_1587 : (.lays "java/lang/ArrayIndexOutOfBoundsException" "java/lang/Throwable" "suppressedExceptions" "Ljava/util/List;" : Cond) ∈ wAll := wg (wt_7 _ (List.mem_of_getElem? (i := 147) rfl)) rfl
theorem wm_1588 : (.lays "java/lang/ArrayIndexOutOfBoundsException" "java/lang/Throwable" "detailMessage" "Ljava/lang/String;" : Cond) ∈ wAll := wg (wt_7 _ (List.mem_of_getElem? (i := 148) rfl)) rfl
theorem wm_1589 : (.lays "java/lang/ArrayIndexOutOfBoundsException" "java/lang/Throwable" "backtrace" "Ljava/lang/Object;" : Cond) ∈ wAll := wg (wt_7 _ (List.mem_of_getElem? (i := 149) rfl)) rfl
theorem wm_1590 : (.methodLink RJ7 70 yJx00060_init_d00df : Cond) ∈ wAll := wg (wt_7 _ (List.mem_of_getElem? (i := 150) rfl)) rfl
theorem wm_1591 : (.instanceMethod yJx00060_init_d00df : Cond) ∈ wAll := wg (wt_7 _ (List.mem_of_getElem? (i := 151) rfl)) rfl
theorem wm_1592 : (.code yJx00060_init_d00df cJx00060_init_d00df 2 (Option.none : Option FieldType) : Cond) ∈ wAll := wg (wt_7 _ (List.mem_of_getElem? (i := 152) rfl)) rfl
theorem wm_1593 : (.classLink RJx00060 10 RJ4 : Cond) ∈ wAll := wg (wt_7 _ (List.mem_of_getElem? (i := 153) rfl)) rfl
theorem wm_1594 : (.methodLink RJx00060 12 yJ4_init_da8c8 : Cond) ∈ wAll := wg (wt_7 _ (List.mem_of_getElem? (i := 154) rfl)) rfl
theorem wm_1596 : (.methodLink RJx00060 15 yJ4_append_15ec4 : Cond) ∈ wAll := wg (wt_7 _ (List.mem_of_getElem? (i := 156) rfl)) rfl
theorem wm_1597 : (.methodLink RJx00060 19 yJ4_append_bf812 : Cond) ∈ wAll := wg (wt_7 _ (List.mem_of_getElem? (i := 157) rfl)) rfl
theorem wm_1598 : (.methodLink RJx00060 22 yJ4_toString_0e30d : Cond) ∈ wAll := wg (wt_7 _ (List.mem_of_getElem? (i := 158) rfl)) rfl
theorem wm_1599 : (.methodLink RJx00060 7 ⟨"java/lang/IndexOutOfBoundsException", "<init>", "(Ljava/lang/String;)V"⟩ : Cond) ∈ wAll := wg (wt_7 _ (List.mem_of_getElem? (i := 159) rfl)) rfl
theorem wm_1600 : (.lays "java/lang/ArrayIndexOutOfBoundsException" "java/lang/Throwable" "depth" "I" : Cond) ∈ wAll := wg (wt_7 _ (List.mem_of_getElem? (i := 160) rfl)) rfl
theorem wm_1601 : (.superclass "java/lang/ArrayIndexOutOfBoundsException" "java/lang/IndexOutOfBoundsException" : Cond) ∈ wAll := wg (wt_7 _ (List.mem_of_getElem? (i := 161) rfl)) rfl
theorem wm_1602 : (.methodLink RJ5 137 yJ2_fillNull_b72d1 : Cond) ∈ wAll := wg (wt_7 _ (List.mem_of_getElem? (i := 162) rfl)) rfl
theorem wm_1603 : (.static yJ2_fillNull_b72d1 : Cond) ∈ wAll := wg (wt_7 _ (List.mem_of_getElem? (i := 163) rfl)) rfl
theorem wm_1604 : (.code yJ2_fillNull_b72d1 cJ2_fillNull_b72d1 3 (Option.none : Option FieldType) : Cond) ∈ wAll := wg (wt_7 _ (List.mem_of_getElem? (i := 164) rfl)) rfl
theorem wm_1605 : (.methodLink RJ2 380 yJ7_fill_eb02e : Cond) ∈ wAll := wg (wt_7 _ (List.mem_of_getElem? (i := 165) rfl)) rfl
theorem wm_1606 : (.methodLink RX8 342 yX8_writeGap : Cond) ∈ wAll := wg (wt_7 _ (List.mem_of_getElem? (i := 166) rfl)) rfl
theorem wm_1608 : (.instanceMethod yX8_writeGap : Cond) ∈ wAll := wg (wt_7 _ (List.mem_of_getElem? (i := 168) rfl)) rfl
theorem wm_1609 : (.code yX8_writeGap cX8_writeGap 3 (Option.none : Option FieldType) : Cond) ∈ wAll := wg (wt_7 _ (List.mem_of_getElem? (i := 169) rfl)) rfl
theorem wm_1610 : (.methodLink RX8 362 yJ4_append_cf468 : Cond) ∈ wAll := wg (wt_7 _ (List.mem_of_getElem? (i := 170) rfl)) rfl
theorem wm_1611 : (.instanceMethod yJ4_append_cf468 : Cond) ∈ wAll := wg (wt_7 _ (List.mem_of_getElem? (i := 171) rfl)) rfl
theorem wm_1612 : (.selects RJ4 yJ4_append_cf468 yJ4_append_cf468 : Cond) ∈ wAll := wg (wt_7 _ (List.mem_of_getElem? (i := 172) rfl)) rfl
theorem wm_1613 : (.code yJ4_append_cf468 cJ4_append_cf468 2 (Option.some (FieldType.object "java/lang/StringBuilder")) : Cond) ∈ wAll := wg (wt_7 _ (List.mem_of_getElem? (i := 173) rfl)) rfl
theorem wm_1614 : (.methodLink RJ4 50 yJ5_append_3fe6f : Cond) ∈ wAll := wg (wt_7 _ (List.mem_of_getElem? (i := 174) rfl)) rfl
theorem wm_1615 : (.instanceMethod yJ5_append_3fe6f : Cond) ∈ wAll := wg (wt_7 _ (List.mem_of_getElem? (i := 175) rfl)) rfl
theorem wm_1616 : (.code yJ5_append_3fe6f cJ5_append_3fe6f 2 (Option.some (FieldType.object "java/lang/AbstractStringBuilder")) : Cond) ∈ wAll := wg (wt_7 _ (List.mem_of_getElem? (i := 176) rfl)) rfl
theorem wm_1617 : (.methodLink RJ5 191 yJ1_canEncode_fc78d : Cond) ∈ wAll := wg (wt_7 _ (List.mem_of_getElem? (i := 177) rfl)) rfl
theorem wm_1618 : (.static yJ1_canEncode_fc78d : Cond) ∈ wAll := wg (wt_7 _ (List.mem_of_getElem? (i := 178) rfl)) rfl
theorem wm_1619 : (.code yJ1_canEncode_fc78d cJ1_canEncode_fc78d 1 (Option.some FieldType.boolean) : Cond) ∈ wAll := wg (wt_7 _ (List.mem_of_getElem? (i := 179) rfl)) rfl
theorem wm_1620 : (.methodLink RJ5 197 yJ2_putCharSB_b72d1 : Cond) ∈ wAll := wg (wt_7 _ (List.mem_of_getElem? (i := 180) rfl)) rfl
theorem wm_1621 : (.static yJ2_putCharSB_b72d1 : Cond) ∈ wAll := wg (wt_7 _ (List.mem_of_getElem? (i := 181) rfl)) rfl
theorem wm_1622 : (.code yJ2_putCharSB_b72d1 cJ2_putCharSB_b72d1 3 (Option.none : Option FieldType) : Cond) ∈ wAll := wg (wt_7 _ (List.mem_of_getElem? (i := 182) rfl)) rfl
theorem wm_1624 : (.methodLink RX8 367 yJ4_append_bf812 : Cond) ∈ wAll := wg (wt_7 _ (List.mem_of_getElem? (i := 184) rfl)) rfl
theorem wm_1625 : (.classLink RL 138 RX9 : Cond) ∈ wAll := wg (wt_7 _ (List.mem_of_getElem? (i := 185) rfl)) rfl
theorem wm_1626 : (.instantiable RX9 19 : Cond) ∈ wAll := wg (wt_7 _ (List.mem_of_getElem? (i := 186) rfl)) rfl
theorem wm_1627 : (.methodLink RL 140 yX9_init : Cond) ∈ wAll := wg (wt_7 _ (List.mem_of_getElem? (i := 187) rfl)) rfl
theorem wm_1628 : (.instanceMethod yX9_init : Cond) ∈ wAll := wg (wt_7 _ (List.mem_of_getElem? (i := 188) rfl)) rfl
theorem wm_1629 : (.code yX9_init cX9_init 3 (Option.none : Option FieldType) : Cond) ∈ wAll := wg (wt_7 _ (List.mem_of_getElem? (i := 189) rfl)) rfl
theorem wm_1630 : (.methodLink RX9 1 ⟨"java/lang/Object", "<init>", "()V"⟩ : Cond) ∈ wAll := wg (wt_7 _ (List.mem_of_getElem? (i := 190) rfl)) rfl
theorem wm_1632 : (.methodLink RX9 44 yJ0_length_8abf5 : Cond) ∈ wAll := wg (wt_7 _ (List.mem_of_getElem? (i := 192) rfl)) rfl
theorem wm_1633 : (.methodLink RX9 50 yJ0_charAt_5068e : Cond) ∈ wAll := wg (wt_7 _ (List.mem_of_getElem? (i := 193) rfl)) rfl
theorem wm_1634 : (.methodLink RX9 57 yX9_loadSetup : Cond) ∈ wAll := wg (wt_7 _ (List.mem_of_getElem? (i := 194) rfl)) rfl
theorem wm_1635 : (.instanceMethod yX9_loadSetup : Cond) ∈ wAll := wg (wt_7 _ (List.mem_of_getElem? (i := 195) rfl)) rfl
theorem wm_1636 : (.selects RX9 yX9_loadSetup yX9_loadSetup : Cond) ∈ wAll := wg (wt_7 _ (List.mem_of_getElem? (i := 196) rfl)) rfl
theorem wm_1637 : (.code yX9_loadSetup cX9_loadSetup 2 (Option.some FieldType.int) : Cond) ∈ wAll := wg (wt_7 _ (List.mem_of_getElem? (i := 197) rfl)) rfl
theorem wm_1638 : (.methodLink RX9 276 yX9_startTrial : Cond) ∈ wAll := wg (wt_7 _ (List.mem_of_getElem? (i := 198) rfl)) rfl
theorem wm_1640 : (.instanceMethod yX9_startTrial : Cond) ∈ wAll := wg (wt_7 _ (List.mem_of_getElem? (i := 200) rfl)) rfl
theorem wm_1641 : (.code yX9_startTrial cX9_startTrial 2 (Option.none : Option FieldType) : Cond) ∈ wAll := wg (wt_7 _ (List.mem_of_getElem? (i := 201) rfl)) rfl
theorem wm_1642 : (.methodLink RX9 279 yX9_startText : Cond) ∈ wAll := wg (wt_7 _ (List.mem_of_getElem? (i := 202) rfl)) rfl
theorem wm_1644 : (.instanceMethod yX9_startText : Cond) ∈ wAll := wg (wt_7 _ (List.mem_of_getElem? (i := 204) rfl)) rfl
theorem wm_1645 : (.code yX9_startText cX9_startText 1 (Option.none : Option FieldType) : Cond) ∈ wAll := wg (wt_7 _ (List.mem_of_getElem? (i := 205) rfl)) rfl
theorem wm_1646 : (.methodLink RX9 170 yX9_next : Cond) ∈ wAll := wg (wt_7 _ (List.mem_of_getElem? (i := 206) rfl)) rfl
theorem wm_1648 : (.instanceMethod yX9_next : Cond) ∈ wAll := wg (wt_7 _ (List.mem_of_getElem? (i := 208) rfl)) rfl
theorem wm_1649 : (.code yX9_next cX9_next 2 (Option.none : Option FieldType) : Cond) ∈ wAll := wg (wt_7 _ (List.mem_of_getElem? (i := 209) rfl)) rfl
theorem wm_1650 : (.methodLink RX9 148 yX9_isSmall : Cond) ∈ wAll := wg (wt_7 _ (List.mem_of_getElem? (i := 210) rfl)) rfl
theorem wm_1651 : (.static yX9_isSmall : Cond) ∈ wAll := wg (wt_7 _ (List.mem_of_getElem? (i := 211) rfl)) rfl
theorem wm_1652 : (.code yX9_isSmall cX9_isSmall 1 (Option.some FieldType.boolean) : Cond) ∈ wAll := wg (wt_7 _ (List.mem_of_getElem? (i := 212) rfl)) rfl
theorem wm_1653 : (.methodLink RX9 135 yX9_inRange : Cond) ∈ wAll := wg (wt_7 _ (List.mem_of_getElem? (i := 213) rfl)) rfl
theorem wm_1654 : (.static yX9_inRange : Cond) ∈ wAll := wg (wt_7 _ (List.mem_of_getElem? (i := 214) rfl)) rfl
theorem wm_1655 : (.code yX9_inRange cX9_inRange 3 (Option.some FieldType.boolean) : Cond) ∈ wAll := wg (wt_7 _ (List.mem_of_getElem? (i := 215) rfl)) rfl
theorem wm_1656 : (.methodLink RX9 152 yX9_isDigit : Cond) ∈ wAll := wg (wt_7 _ (List.mem_of_getElem? (i := 216) rfl)) rfl
theorem wm_1657 : (.static yX9_isDigit : Cond) ∈ wAll := wg (wt_7 _ (List.mem_of_getElem? (i := 217) rfl)) rfl
theorem wm_1658 : (.code yX9_isDigit cX9_isDigit 1 (Option.some FieldType.boolean) : Cond) ∈ wAll := wg (wt_7 _ (List.mem_of_getElem? (i := 218) rfl)) rfl
theorem wm_1659 : (.constant RX9 158 (9999999) : Cond) ∈ wAll := wg (wt_7 _ (List.mem_of_getElem? (i := 219) rfl)) rfl
theorem wm_1660 : (.constant RX9 159 (99999999) : Cond) ∈ wAll := wg (wt_7 _ (List.mem_of_getElem? (i := 220) rfl)) rfl
theorem wm_1661 : (.methodLink RX9 282 yX9_setupText : Cond) ∈ wAll := wg (wt_7 _ (List.mem_of_getElem? (i := 221) rfl)) rfl
theorem wm_1663 : (.instanceMethod yX9_setupText : Cond) ∈ wAll := wg (wt_7 _ (List.mem_of_getElem? (i := 223) rfl)) rfl
theorem wm_1664 : (.code yX9_setupText cX9_setupText 2 (Option.some FieldType.boolean) : Cond) ∈ wAll := wg (wt_7 _ (List.mem_of_getElem? (i := 224) rfl)) rfl
theorem wm_1666 : (.methodLink RX9 183 yX9_expects : Cond) ∈ wAll := wg (wt_7 _ (List.mem_of_getElem? (i := 226) rfl)) rfl
theorem wm_1668 : (.instanceMethod yX9_expects : Cond) ∈ wAll := wg (wt_7 _ (List.mem_of_getElem? (i := 228) rfl)) rfl
theorem wm_1669 : (.code yX9_expects cX9_expects 2 (Option.some FieldType.boolean) : Cond) ∈ wAll := wg (wt_7 _ (List.mem_of_getElem? (i := 229) rfl)) rfl
theorem wm_1670 : (.methodLink RX9 163 yX9_isWord : Cond) ∈ wAll := wg (wt_7 _ (List.mem_of_getElem? (i := 230) rfl)) rfl
theorem wm_1672 : (.instanceMethod yX9_isWord : Cond) ∈ wAll := wg (wt_7 _ (List.mem_of_getElem? (i := 232) rfl)) rfl
theorem wm_1673 : (.code yX9_isWord cX9_isWord 4 (Option.some FieldType.boolean) : Cond) ∈ wAll := wg (wt_7 _ (List.mem_of_getElem? (i := 233) rfl)) rfl
theorem wm_1674 : (.methodLink RX9 131 yX9_flag : Cond) ∈ wAll := wg (wt_7 _ (List.mem_of_getElem? (i := 234) rfl)) rfl
theorem wm_1675 : (.static yX9_flag : Cond) ∈ wAll := wg (wt_7 _ (List.mem_of_getElem? (i := 235) rfl)) rfl
theorem wm_1676 : (.code yX9_flag cX9_flag 1 (Option.some FieldType.int) : Cond) ∈ wAll := wg (wt_7 _ (List.mem_of_getElem? (i := 236) rfl)) rfl
theorem wm_1677 : (.methodLink RX9 167 yX9_wrong : Cond) ∈ wAll := wg (wt_7 _ (List.mem_of_getElem? (i := 237) rfl)) rfl
theorem wm_1679 : (.instanceMethod yX9_wrong : Cond) ∈ wAll := wg (wt_7 _ (List.mem_of_getElem? (i := 239) rfl)) rfl
theorem wm_1680 : (.code yX9_wrong cX9_wrong 2 (Option.some FieldType.boolean) : Cond) ∈ wAll := wg (wt_8 _ (List.mem_of_getElem? (i := 0) rfl)) rfl
theorem wm_1681 : (.constant RX9 186 (99999) : Cond) ∈ wAll := wg (wt_8 _ (List.mem_of_getElem? (i := 1) rfl)) rfl
theorem wm_1682 : (.methodLink RX9 187 yX9_into : Cond) ∈ wAll := wg (wt_8 _ (List.mem_of_getElem? (i := 2) rfl)) rfl
theorem wm_1684 : (.instanceMethod yX9_into : Cond) ∈ wAll := wg (wt_8 _ (List.mem_of_getElem? (i := 4) rfl)) rfl
theorem wm_1685 : (.code yX9_into cX9_into 4 (Option.some FieldType.boolean) : Cond) ∈ wAll := wg (wt_8 _ (List.mem_of_getElem? (i := 5) rfl)) rfl
theorem wm_1686 : (.methodLink RX9 177 yX9_numberIn : Cond) ∈ wAll := wg (wt_8 _ (List.mem_of_getElem? (i := 6) rfl)) rfl
theorem wm_1688 : (.instanceMethod yX9_numberIn : Cond) ∈ wAll := wg (wt_8 _ (List.mem_of_getElem? (i := 8) rfl)) rfl
theorem wm_1689 : (.code yX9_numberIn cX9_numberIn 3 (Option.some FieldType.boolean) : Cond) ∈ wAll := wg (wt_8 _ (List.mem_of_getElem? (i := 9) rfl)) rfl
theorem wm_1690 : (.methodLink RX9 190 yX9_semicolon : Cond) ∈ wAll := wg (wt_8 _ (List.mem_of_getElem? (i := 10) rfl)) rfl
theorem wm_1692 : (.instanceMethod yX9_semicolon : Cond) ∈ wAll := wg (wt_8 _ (List.mem_of_getElem? (i := 12) rfl)) rfl
theorem wm_1693 : (.code yX9_semicolon cX9_semicolon 1 (Option.some FieldType.boolean) : Cond) ∈ wAll := wg (wt_8 _ (List.mem_of_getElem? (i := 13) rfl)) rfl
theorem wm_1694 : (.methodLink RX9 173 yX9_isEnd : Cond) ∈ wAll := wg (wt_8 _ (List.mem_of_getElem? (i := 14) rfl)) rfl
theorem wm_1696 : (.instanceMethod yX9_isEnd : Cond) ∈ wAll := wg (wt_8 _ (List.mem_of_getElem? (i := 16) rfl)) rfl
theorem wm_1697 : (.code yX9_isEnd cX9_isEnd 1 (Option.some FieldType.boolean) : Cond) ∈ wAll := wg (wt_8 _ (List.mem_of_getElem? (i := 17) rfl)) rfl
theorem wm_1698 : (.methodLink RX9 193 yX9_commandsText : Cond) ∈ wAll := wg (wt_8 _ (List.mem_of_getElem? (i := 18) rfl)) rfl
theorem wm_1700 : (.instanceMethod yX9_commandsText : Cond) ∈ wAll := wg (wt_8 _ (List.mem_of_getElem? (i := 20) rfl)) rfl
theorem wm_1701 : (.code yX9_commandsText cX9_commandsText 5 (Option.some FieldType.int) : Cond) ∈ wAll := wg (wt_8 _ (List.mem_of_getElem? (i := 21) rfl)) rfl
theorem wm_1702 : (.methodLink RX9 207 yX9_commandHere : Cond) ∈ wAll := wg (wt_8 _ (List.mem_of_getElem? (i := 22) rfl)) rfl
theorem wm_1704 : (.instanceMethod yX9_commandHere : Cond) ∈ wAll := wg (wt_8 _ (List.mem_of_getElem? (i := 24) rfl)) rfl
theorem wm_1705 : (.code yX9_commandHere cX9_commandHere 3 (Option.some FieldType.int) : Cond) ∈ wAll := wg (wt_8 _ (List.mem_of_getElem? (i := 25) rfl)) rfl
theorem wm_1713 : (.methodLink RX9 210 yX9_commandText : Cond) ∈ wAll := wg (wt_8 _ (List.mem_of_getElem? (i := 33) rfl)) rfl
theorem wm_1715 : (.instanceMethod yX9_commandText : Cond) ∈ wAll := wg (wt_8 _ (List.mem_of_getElem? (i := 35) rfl)) rfl
theorem wm_1716 : (.code yX9_commandText cX9_commandText 3 (Option.some FieldType.boolean) : Cond) ∈ wAll := wg (wt_8 _ (List.mem_of_getElem? (i := 36) rfl)) rfl
theorem wm_1717 : (.methodLink RX9 267 yX9_argumentsText : Cond) ∈ wAll := wg (wt_8 _ (List.mem_of_getElem? (i := 37) rfl)) rfl
theorem wm_1719 : (.instanceMethod yX9_argumentsText : Cond) ∈ wAll := wg (wt_8 _ (List.mem_of_getElem? (i := 39) rfl)) rfl
theorem wm_1720 : (.code yX9_argumentsText cX9_argumentsText 2 (Option.some FieldType.boolean) : Cond) ∈ wAll := wg (wt_8 _ (List.mem_of_getElem? (i := 40) rfl)) rfl
theorem wm_1721 : (.methodLink RX9 233 yX9_recipeInto : Cond) ∈ wAll := wg (wt_8 _ (List.mem_of_getElem? (i := 41) rfl)) rfl
theorem wm_1723 : (.instanceMethod yX9_recipeInto : Cond) ∈ wAll := wg (wt_8 _ (List.mem_of_getElem? (i := 43) rfl)) rfl
theorem wm_1724 : (.code yX9_recipeInto cX9_recipeInto 2 (Option.some FieldType.boolean) : Cond) ∈ wAll := wg (wt_8 _ (List.mem_of_getElem? (i := 44) rfl)) rfl
theorem wm_1725 : (.methodLink RX9 214 yX9_isRecipe : Cond) ∈ wAll := wg (wt_8 _ (List.mem_of_getElem? (i := 45) rfl)) rfl
theorem wm_1727 : (.instanceMethod yX9_isRecipe : Cond) ∈ wAll := wg (wt_8 _ (List.mem_of_getElem? (i := 47) rfl)) rfl
theorem wm_1728 : (.code yX9_isRecipe cX9_isRecipe 4 (Option.some FieldType.boolean) : Cond) ∈ wAll := wg (wt_8 _ (List.mem_of_getElem? (i := 48) rfl)) rfl
theorem wm_1729 : (.constant RX9 213 (999999) : Cond) ∈ wAll := wg (wt_8 _ (List.mem_of_getElem? (i := 49) rfl)) rfl
theorem wm_1730 : (.methodLink RX9 74 yX9_digit : Cond) ∈ wAll := wg (wt_8 _ (List.mem_of_getElem? (i := 50) rfl)) rfl
theorem wm_1731 : (.static yX9_digit : Cond) ∈ wAll := wg (wt_8 _ (List.mem_of_getElem? (i := 51) rfl)) rfl
theorem wm_1732 : (.code yX9_digit cX9_digit 4 (Option.some FieldType.int) : Cond) ∈ wAll := wg (wt_8 _ (List.mem_of_getElem? (i := 52) rfl)) rfl
theorem wm_1733 : (.methodLink RX9 236 yX9_bakeText : Cond) ∈ wAll := wg (wt_8 _ (List.mem_of_getElem? (i := 53) rfl)) rfl
theorem wm_1735 : (.instanceMethod yX9_bakeText : Cond) ∈ wAll := wg (wt_8 _ (List.mem_of_getElem? (i := 55) rfl)) rfl
theorem wm_1736 : (.code yX9_bakeText cX9_bakeText 1 (Option.some FieldType.boolean) : Cond) ∈ wAll := wg (wt_8 _ (List.mem_of_getElem? (i := 56) rfl)) rfl
theorem wm_1737 : (.methodLink RX9 227 yX9_breadInto : Cond) ∈ wAll := wg (wt_8 _ (List.mem_of_getElem? (i := 57) rfl)) rfl
theorem wm_1739 : (.instanceMethod yX9_breadInto : Cond) ∈ wAll := wg (wt_8 _ (List.mem_of_getElem? (i := 59) rfl)) rfl
theorem wm_1740 : (.code yX9_breadInto cX9_breadInto 1 (Option.some FieldType.boolean) : Cond) ∈ wAll := wg (wt_8 _ (List.mem_of_getElem? (i := 60) rfl)) rfl
theorem wm_1741 : (.methodLink RX9 230 yX9_extraText : Cond) ∈ wAll := wg (wt_8 _ (List.mem_of_getElem? (i := 61) rfl)) rfl
theorem wm_1743 : (.instanceMethod yX9_extraText : Cond) ∈ wAll := wg (wt_8 _ (List.mem_of_getElem? (i := 63) rfl)) rfl
theorem wm_1744 : (.code yX9_extraText cX9_extraText 3 (Option.some FieldType.boolean) : Cond) ∈ wAll := wg (wt_8 _ (List.mem_of_getElem? (i := 64) rfl)) rfl
theorem wm_1750 : (.methodLink RX9 270 yX9_isPossible : Cond) ∈ wAll := wg (wt_8 _ (List.mem_of_getElem? (i := 70) rfl)) rfl
theorem wm_1752 : (.instanceMethod yX9_isPossible : Cond) ∈ wAll := wg (wt_8 _ (List.mem_of_getElem? (i := 72) rfl)) rfl
theorem wm_1753 : (.code yX9_isPossible cX9_isPossible 2 (Option.some FieldType.boolean) : Cond) ∈ wAll := wg (wt_8 _ (List.mem_of_getElem? (i := 73) rfl)) rfl
theorem wm_1754 : (.methodLink RX9 239 yX9_canBuy : Cond) ∈ wAll := wg (wt_8 _ (List.mem_of_getElem? (i := 74) rfl)) rfl
theorem wm_1756 : (.instanceMethod yX9_canBuy : Cond) ∈ wAll := wg (wt_8 _ (List.mem_of_getElem? (i := 76) rfl)) rfl
theorem wm_1757 : (.code yX9_canBuy cX9_canBuy 4 (Option.some FieldType.boolean) : Cond) ∈ wAll := wg (wt_8 _ (List.mem_of_getElem? (i := 77) rfl)) rfl
theorem wm_1758 : (.methodLink RX9 63 yX9_flour : Cond) ∈ wAll := wg (wt_8 _ (List.mem_of_getElem? (i := 78) rfl)) rfl
theorem wm_1760 : (.instanceMethod yX9_flour : Cond) ∈ wAll := wg (wt_8 _ (List.mem_of_getElem? (i := 80) rfl)) rfl
theorem wm_1761 : (.code yX9_flour cX9_flour 3 (Option.some FieldType.int) : Cond) ∈ wAll := wg (wt_8 _ (List.mem_of_getElem? (i := 81) rfl)) rfl
theorem wm_1762 : (.methodLink RX9 242 yX9_obstacle : Cond) ∈ wAll := wg (wt_8 _ (List.mem_of_getElem? (i := 82) rfl)) rfl
theorem wm_1764 : (.instanceMethod yX9_obstacle : Cond) ∈ wAll := wg (wt_8 _ (List.mem_of_getElem? (i := 84) rfl)) rfl
theorem wm_1765 : (.code yX9_obstacle cX9_obstacle 6 (Option.some FieldType.int) : Cond) ∈ wAll := wg (wt_8 _ (List.mem_of_getElem? (i := 85) rfl)) rfl
theorem wm_1766 : (.methodLink RX9 80 yX9_mainFlour : Cond) ∈ wAll := wg (wt_8 _ (List.mem_of_getElem? (i := 86) rfl)) rfl
theorem wm_1768 : (.instanceMethod yX9_mainFlour : Cond) ∈ wAll := wg (wt_8 _ (List.mem_of_getElem? (i := 88) rfl)) rfl
theorem wm_1769 : (.code yX9_mainFlour cX9_mainFlour 3 (Option.some FieldType.int) : Cond) ∈ wAll := wg (wt_8 _ (List.mem_of_getElem? (i := 89) rfl)) rfl
theorem wm_1770 : (.methodLink RX9 77 yX9_amount : Cond) ∈ wAll := wg (wt_8 _ (List.mem_of_getElem? (i := 90) rfl)) rfl
theorem wm_1772 : (.instanceMethod yX9_amount : Cond) ∈ wAll := wg (wt_8 _ (List.mem_of_getElem? (i := 92) rfl)) rfl
theorem wm_1773 : (.code yX9_amount cX9_amount 3 (Option.some FieldType.int) : Cond) ∈ wAll := wg (wt_8 _ (List.mem_of_getElem? (i := 93) rfl)) rfl
theorem wm_1774 : (.methodLink RX9 71 yX9_bread : Cond) ∈ wAll := wg (wt_8 _ (List.mem_of_getElem? (i := 94) rfl)) rfl
theorem wm_1776 : (.instanceMethod yX9_bread : Cond) ∈ wAll := wg (wt_8 _ (List.mem_of_getElem? (i := 96) rfl)) rfl
theorem wm_1777 : (.code yX9_bread cX9_bread 3 (Option.some FieldType.int) : Cond) ∈ wAll := wg (wt_8 _ (List.mem_of_getElem? (i := 97) rfl)) rfl
theorem wm_1778 : (.methodLink RX9 84 yX9_used : Cond) ∈ wAll := wg (wt_8 _ (List.mem_of_getElem? (i := 98) rfl)) rfl
theorem wm_1780 : (.instanceMethod yX9_used : Cond) ∈ wAll := wg (wt_8 _ (List.mem_of_getElem? (i := 100) rfl)) rfl
theorem wm_1781 : (.code yX9_used cX9_used 5 (Option.some FieldType.int) : Cond) ∈ wAll := wg (wt_8 _ (List.mem_of_getElem? (i := 101) rfl)) rfl
theorem wm_1782 : (.methodLink RX9 88 yX9_units : Cond) ∈ wAll := wg (wt_8 _ (List.mem_of_getElem? (i := 102) rfl)) rfl
theorem wm_1784 : (.instanceMethod yX9_units : Cond) ∈ wAll := wg (wt_8 _ (List.mem_of_getElem? (i := 104) rfl)) rfl
theorem wm_1785 : (.code yX9_units cX9_units 4 (Option.some FieldType.int) : Cond) ∈ wAll := wg (wt_8 _ (List.mem_of_getElem? (i := 105) rfl)) rfl
theorem wm_1786 : (.methodLink RX9 67 yX9_lot : Cond) ∈ wAll := wg (wt_8 _ (List.mem_of_getElem? (i := 106) rfl)) rfl
theorem wm_1788 : (.instanceMethod yX9_lot : Cond) ∈ wAll := wg (wt_8 _ (List.mem_of_getElem? (i := 108) rfl)) rfl
theorem wm_1789 : (.code yX9_lot cX9_lot 4 (Option.some FieldType.int) : Cond) ∈ wAll := wg (wt_8 _ (List.mem_of_getElem? (i := 109) rfl)) rfl
theorem wm_1790 : (.methodLink RX9 273 yX9_does : Cond) ∈ wAll := wg (wt_8 _ (List.mem_of_getElem? (i := 110) rfl)) rfl
theorem wm_1792 : (.instanceMethod yX9_does : Cond) ∈ wAll := wg (wt_8 _ (List.mem_of_getElem? (i := 112) rfl)) rfl
theorem wm_1793 : (.code yX9_does cX9_does 2 (Option.some FieldType.int) : Cond) ∈ wAll := wg (wt_8 _ (List.mem_of_getElem? (i := 113) rfl)) rfl
theorem wm_1794 : (.methodLink RX9 245 yX9_doFlour : Cond) ∈ wAll := wg (wt_8 _ (List.mem_of_getElem? (i := 114) rfl)) rfl
theorem wm_1796 : (.instanceMethod yX9_doFlour : Cond) ∈ wAll := wg (wt_8 _ (List.mem_of_getElem? (i := 116) rfl)) rfl
theorem wm_1797 : (.code yX9_doFlour cX9_doFlour 4 (Option.some FieldType.int) : Cond) ∈ wAll := wg (wt_8 _ (List.mem_of_getElem? (i := 117) rfl)) rfl
theorem wm_1798 : (.methodLink RX9 91 yX9_addToFlour : Cond) ∈ wAll := wg (wt_8 _ (List.mem_of_getElem? (i := 118) rfl)) rfl
theorem wm_1800 : (.instanceMethod yX9_addToFlour : Cond) ∈ wAll := wg (wt_8 _ (List.mem_of_getElem? (i := 120) rfl)) rfl
theorem wm_1801 : (.code yX9_addToFlour cX9_addToFlour 4 (Option.none : Option FieldType) : Cond) ∈ wAll := wg (wt_8 _ (List.mem_of_getElem? (i := 121) rfl)) rfl
theorem wm_1802 : (.methodLink RX9 248 yX9_doBread : Cond) ∈ wAll := wg (wt_8 _ (List.mem_of_getElem? (i := 122) rfl)) rfl
theorem wm_1804 : (.instanceMethod yX9_doBread : Cond) ∈ wAll := wg (wt_8 _ (List.mem_of_getElem? (i := 124) rfl)) rfl
theorem wm_1805 : (.code yX9_doBread cX9_doBread 5 (Option.some FieldType.int) : Cond) ∈ wAll := wg (wt_8 _ (List.mem_of_getElem? (i := 125) rfl)) rfl
theorem wm_1806 : (.methodLink RX9 251 yX9_doBuy : Cond) ∈ wAll := wg (wt_8 _ (List.mem_of_getElem? (i := 126) rfl)) rfl
theorem wm_1808 : (.instanceMethod yX9_doBuy : Cond) ∈ wAll := wg (wt_8 _ (List.mem_of_getElem? (i := 128) rfl)) rfl
theorem wm_1809 : (.code yX9_doBuy cX9_doBuy 5 (Option.some FieldType.int) : Cond) ∈ wAll := wg (wt_8 _ (List.mem_of_getElem? (i := 129) rfl)) rfl
theorem wm_1810 : (.methodLink RX9 254 yX9_doRate : Cond) ∈ wAll := wg (wt_8 _ (List.mem_of_getElem? (i := 130) rfl)) rfl
theorem wm_1812 : (.instanceMethod yX9_doRate : Cond) ∈ wAll := wg (wt_8 _ (List.mem_of_getElem? (i := 132) rfl)) rfl
theorem wm_1813 : (.code yX9_doRate cX9_doRate 4 (Option.some FieldType.int) : Cond) ∈ wAll := wg (wt_8 _ (List.mem_of_getElem? (i := 133) rfl)) rfl
theorem wm_1814 : (.methodLink RX9 257 yX9_doBake : Cond) ∈ wAll := wg (wt_8 _ (List.mem_of_getElem? (i := 134) rfl)) rfl
theorem wm_1816 : (.instanceMethod yX9_doBake : Cond) ∈ wAll := wg (wt_8 _ (List.mem_of_getElem? (i := 136) rfl)) rfl
theorem wm_1817 : (.code yX9_doBake cX9_doBake 13 (Option.some FieldType.int) : Cond) ∈ wAll := wg (wt_8 _ (List.mem_of_getElem? (i := 137) rfl)) rfl
theorem wm_1818 : (.methodLink RX9 104 yX9_putBatch : Cond) ∈ wAll := wg (wt_8 _ (List.mem_of_getElem? (i := 138) rfl)) rfl
theorem wm_1820 : (.instanceMethod yX9_putBatch : Cond) ∈ wAll := wg (wt_8 _ (List.mem_of_getElem? (i := 140) rfl)) rfl
theorem wm_1821 : (.code yX9_putBatch cX9_putBatch 4 (Option.none : Option FieldType) : Cond) ∈ wAll := wg (wt_8 _ (List.mem_of_getElem? (i := 141) rfl)) rfl
theorem wm_1822 : (.methodLink RX9 107 yX9_useFlour : Cond) ∈ wAll := wg (wt_8 _ (List.mem_of_getElem? (i := 142) rfl)) rfl
theorem wm_1824 : (.instanceMethod yX9_useFlour : Cond) ∈ wAll := wg (wt_8 _ (List.mem_of_getElem? (i := 144) rfl)) rfl
theorem wm_1825 : (.code yX9_useFlour cX9_useFlour 12 (Option.some FieldType.int) : Cond) ∈ wAll := wg (wt_8 _ (List.mem_of_getElem? (i := 145) rfl)) rfl
theorem wm_1826 : (.methodLink RX9 98 yX9_takeUnit : Cond) ∈ wAll := wg (wt_8 _ (List.mem_of_getElem? (i := 146) rfl)) rfl
theorem wm_1828 : (.instanceMethod yX9_takeUnit : Cond) ∈ wAll := wg (wt_8 _ (List.mem_of_getElem? (i := 148) rfl)) rfl
theorem wm_1829 : (.code yX9_takeUnit cX9_takeUnit 6 (Option.some FieldType.int) : Cond) ∈ wAll := wg (wt_8 _ (List.mem_of_getElem? (i := 149) rfl)) rfl
theorem wm_1830 : (.methodLink RX9 101 yX9_batch : Cond) ∈ wAll := wg (wt_8 _ (List.mem_of_getElem? (i := 150) rfl)) rfl
theorem wm_1832 : (.instanceMethod yX9_batch : Cond) ∈ wAll := wg (wt_8 _ (List.mem_of_getElem? (i := 152) rfl)) rfl
theorem wm_1833 : (.code yX9_batch cX9_batch 3 (Option.some FieldType.int) : Cond) ∈ wAll := wg (wt_8 _ (List.mem_of_getElem? (i := 153) rfl)) rfl
theorem wm_1834 : (.methodLink RX9 110 yX9_firstOven : Cond) ∈ wAll := wg (wt_8 _ (List.mem_of_getElem? (i := 154) rfl)) rfl
theorem wm_1836 : (.instanceMethod yX9_firstOven : Cond) ∈ wAll := wg (wt_8 _ (List.mem_of_getElem? (i := 156) rfl)) rfl
theorem wm_1837 : (.code yX9_firstOven cX9_firstOven 3 (Option.some FieldType.int) : Cond) ∈ wAll := wg (wt_8 _ (List.mem_of_getElem? (i := 157) rfl)) rfl
theorem wm_1838 : (.methodLink RX9 113 yJ9_max_7cf53 : Cond) ∈ wAll := wg (wt_8 _ (List.mem_of_getElem? (i := 158) rfl)) rfl
theorem wm_1839 : (.methodLink RX9 118 yX9_costOfMinutes : Cond) ∈ wAll := wg (wt_8 _ (List.mem_of_getElem? (i := 159) rfl)) rfl
theorem wm_1841 : (.instanceMethod yX9_costOfMinutes : Cond) ∈ wAll := wg (wt_8 _ (List.mem_of_getElem? (i := 161) rfl)) rfl
theorem wm_1842 : (.code yX9_costOfMinutes cX9_costOfMinutes 5 (Option.some FieldType.int) : Cond) ∈ wAll := wg (wt_8 _ (List.mem_of_getElem? (i := 162) rfl)) rfl
theorem wm_1843 : (.methodLink RX9 95 yX9_rate : Cond) ∈ wAll := wg (wt_8 _ (List.mem_of_getElem? (i := 163) rfl)) rfl
theorem wm_1845 : (.instanceMethod yX9_rate : Cond) ∈ wAll := wg (wt_8 _ (List.mem_of_getElem? (i := 165) rfl)) rfl
theorem wm_1846 : (.code yX9_rate cX9_rate 2 (Option.some FieldType.int) : Cond) ∈ wAll := wg (wt_8 _ (List.mem_of_getElem? (i := 166) rfl)) rfl
theorem wm_1847 : (.methodLink RX9 121 yX9_standard : Cond) ∈ wAll := wg (wt_8 _ (List.mem_of_getElem? (i := 167) rfl)) rfl
theorem wm_1849 : (.instanceMethod yX9_standard : Cond) ∈ wAll := wg (wt_8 _ (List.mem_of_getElem? (i := 169) rfl)) rfl
theorem wm_1850 : (.code yX9_standard cX9_standard 4 (Option.some FieldType.int) : Cond) ∈ wAll := wg (wt_8 _ (List.mem_of_getElem? (i := 170) rfl)) rfl
theorem wm_1851 : (.methodLink RX9 261 yX9_doSell : Cond) ∈ wAll := wg (wt_8 _ (List.mem_of_getElem? (i := 171) rfl)) rfl
theorem wm_1853 : (.instanceMethod yX9_doSell : Cond) ∈ wAll := wg (wt_8 _ (List.mem_of_getElem? (i := 173) rfl)) rfl
theorem wm_1854 : (.code yX9_doSell cX9_doSell 4 (Option.some FieldType.int) : Cond) ∈ wAll := wg (wt_8 _ (List.mem_of_getElem? (i := 174) rfl)) rfl
theorem wm_1855 : (.methodLink RX9 264 yX9_doWait : Cond) ∈ wAll := wg (wt_8 _ (List.mem_of_getElem? (i := 175) rfl)) rfl
theorem wm_1857 : (.instanceMethod yX9_doWait : Cond) ∈ wAll := wg (wt_8 _ (List.mem_of_getElem? (i := 177) rfl)) rfl
theorem wm_1858 : (.code yX9_doWait cX9_doWait 2 (Option.some FieldType.int) : Cond) ∈ wAll := wg (wt_8 _ (List.mem_of_getElem? (i := 178) rfl)) rfl
theorem wm_1859 : (.methodLink RX9 285 yX9_putBack : Cond) ∈ wAll := wg (wt_8 _ (List.mem_of_getElem? (i := 179) rfl)) rfl
theorem wm_1861 : (.instanceMethod yX9_putBack : Cond) ∈ wAll := wg (wt_8 _ (List.mem_of_getElem? (i := 181) rfl)) rfl
theorem wm_1862 : (.code yX9_putBack cX9_putBack 3 (Option.some FieldType.int) : Cond) ∈ wAll := wg (wt_8 _ (List.mem_of_getElem? (i := 182) rfl)) rfl
theorem wm_1863 : (.fieldLink RX9 7 "PennyBakeryModel" "buffer" "[I" : Cond) ∈ wAll := wg (wt_8 _ (List.mem_of_getElem? (i := 183) rfl)) rfl
theorem wm_1864 : (.fieldLink RX9 54 "PennyBakeryModel" "bytes" "I" : Cond) ∈ wAll := wg (wt_8 _ (List.mem_of_getElem? (i := 184) rfl)) rfl
theorem wm_1865 : (.fieldLink RX9 160 "PennyBakeryModel" "errorCode" "I" : Cond) ∈ wAll := wg (wt_8 _ (List.mem_of_getElem? (i := 185) rfl)) rfl
theorem wm_1866 : (.fieldLink RX9 13 "PennyBakeryModel" "errorPosition" "I" : Cond) ∈ wAll := wg (wt_8 _ (List.mem_of_getElem? (i := 186) rfl)) rfl
theorem wm_1867 : (.fieldLink RX9 60 "PennyBakeryModel" "thrown" "I" : Cond) ∈ wAll := wg (wt_8 _ (List.mem_of_getElem? (i := 187) rfl)) rfl
theorem wm_1868 : (.fieldLink RX9 17 "PennyBakeryModel" "now" "[I" : Cond) ∈ wAll := wg (wt_8 _ (List.mem_of_getElem? (i := 188) rfl)) rfl
theorem wm_1869 : (.fieldLink RX9 20 "PennyBakeryModel" "aside" "[I" : Cond) ∈ wAll := wg (wt_8 _ (List.mem_of_getElem? (i := 189) rfl)) rfl
theorem wm_1870 : (.fieldLink RX9 23 "PennyBakeryModel" "trial" "[I" : Cond) ∈ wAll := wg (wt_8 _ (List.mem_of_getElem? (i := 190) rfl)) rfl
theorem wm_1871 : (.fieldLink RX9 26 "PennyBakeryModel" "history" "[I" : Cond) ∈ wAll := wg (wt_8 _ (List.mem_of_getElem? (i := 191) rfl)) rfl
theorem wm_1872 : (.fieldLink RX9 288 "PennyBakeryModel" "historySize" "I" : Cond) ∈ wAll := wg (wt_8 _ (List.mem_of_getElem? (i := 192) rfl)) rfl
theorem wm_1873 : (.fieldLink RX9 29 "PennyBakeryModel" "saved" "[I" : Cond) ∈ wAll := wg (wt_8 _ (List.mem_of_getElem? (i := 193) rfl)) rfl
theorem wm_1874 : (.fieldLink RX9 32 "PennyBakeryModel" "isSaved" "[Z" : Cond) ∈ wAll := wg (wt_8 _ (List.mem_of_getElem? (i := 194) rfl)) rfl
theorem wm_1875 : (.fieldLink RX9 36 "PennyBakeryModel" "told" "[I" : Cond) ∈ wAll := wg (wt_8 _ (List.mem_of_getElem? (i := 195) rfl)) rfl
theorem wm_1876 : (.fieldLink RX9 39 "PennyBakeryModel" "output" "[I" : Cond) ∈ wAll := wg (wt_8 _ (List.mem_of_getElem? (i := 196) rfl)) rfl
theorem wm_1877 : (.fieldLink RX9 139 "PennyBakeryModel" "at" "I" : Cond) ∈ wAll := wg (wt_8 _ (List.mem_of_getElem? (i := 197) rfl)) rfl
theorem wm_1878 : (.fieldLink RX9 145 "PennyBakeryModel" "token" "I" : Cond) ∈ wAll := wg (wt_8 _ (List.mem_of_getElem? (i := 198) rfl)) rfl
theorem wm_1879 : (.fieldLink RX9 142 "PennyBakeryModel" "begin" "I" : Cond) ∈ wAll := wg (wt_8 _ (List.mem_of_getElem? (i := 199) rfl)) rfl
theorem wm_1880 : (.fieldLink RX9 155 "PennyBakeryModel" "number" "I" : Cond) ∈ wAll := wg (wt_8 _ (List.mem_of_getElem? (i := 200) rfl)) rfl
theorem wm_1881 : (.fieldLink RX9 346 "PennyBakeryModel" "outputLength" "I" : Cond) ∈ wAll := wg (wt_8 _ (List.mem_of_getElem? (i := 201) rfl)) rfl
theorem wm_1882 : (.laysFinal "PennyBakeryModel" "PennyBakeryModel" "buffer" "[I" : Cond) ∈ wAll := wg (wt_8 _ (List.mem_of_getElem? (i := 202) rfl)) rfl
theorem wm_1884 : (.lays "PennyBakeryModel" "PennyBakeryModel" "bytes" "I" : Cond) ∈ wAll := wg (wt_8 _ (List.mem_of_getElem? (i := 204) rfl)) rfl
theorem wm_1886 : (.lays "PennyBakeryModel" "PennyBakeryModel" "errorCode" "I" : Cond) ∈ wAll := wg (wt_8 _ (List.mem_of_getElem? (i := 206) rfl)) rfl
theorem wm_1888 : (.lays "PennyBakeryModel" "PennyBakeryModel" "errorPosition" "I" : Cond) ∈ wAll := wg (wt_8 _ (List.mem_of_getElem? (i := 208) rfl)) rfl
theorem wm_1890 : (.lays "PennyBakeryModel" "PennyBakeryModel" "thrown" "I" : Cond) ∈ wAll := wg (wt_8 _ (List.mem_of_getElem? (i := 210) rfl)) rfl
theorem wm_1892 : (.laysFinal "PennyBakeryModel" "PennyBakeryModel" "now" "[I" : Cond) ∈ wAll := wg (wt_8 _ (List.mem_of_getElem? (i := 212) rfl)) rfl
theorem wm_1894 : (.laysFinal "PennyBakeryModel" "PennyBakeryModel" "aside" "[I" : Cond) ∈ wAll := wg (wt_8 _ (List.mem_of_getElem? (i := 214) rfl)) rfl
theorem wm_1896 : (.laysFinal "PennyBakeryModel" "PennyBakeryModel" "trial" "[I" : Cond) ∈ wAll := wg (wt_8 _ (List.mem_of_getElem? (i := 216) rfl)) rfl
theorem wm_1898 : (.laysFinal "PennyBakeryModel" "PennyBakeryModel" "history" "[I" : Cond) ∈ wAll := wg (wt_8 _ (List.mem_of_getElem? (i := 218) rfl)) rfl
theorem wm_1900 : (.lays "PennyBakeryModel" "PennyBakeryModel" "historySize" "I" : Cond) ∈ wAll := wg (wt_8 _ (List.mem_of_getElem? (i := 220) rfl)) rfl
theorem wm_1902 : (.laysFinal "PennyBakeryModel" "PennyBakeryModel" "saved" "[I" : Cond) ∈ wAll := wg (wt_8 _ (List.mem_of_getElem? (i := 222) rfl)) rfl
theorem wm_1904 : (.laysFinal "PennyBakeryModel" "PennyBakeryModel" "isSaved" "[Z" : Cond) ∈ wAll := wg (wt_8 _ (List.mem_of_getElem? (i := 224) rfl)) rfl
theorem wm_1906 : (.laysFinal "PennyBakeryModel" "PennyBakeryModel" "told" "[I" : Cond) ∈ wAll := wg (wt_8 _ (List.mem_of_getElem? (i := 226) rfl)) rfl
theorem wm_1908 : (.laysFinal "PennyBakeryModel" "PennyBakeryModel" "output" "[I" : Cond) ∈ wAll := wg (wt_8 _ (List.mem_of_getElem? (i := 228) rfl)) rfl
theorem wm_1910 : (.lays "PennyBakeryModel" "PennyBakeryModel" "at" "I" : Cond) ∈ wAll := wg (wt_8 _ (List.mem_of_getElem? (i := 230) rfl)) rfl
theorem wm_1912 : (.lays "PennyBakeryModel" "PennyBakeryModel" "token" "I" : Cond) ∈ wAll := wg (wt_8 _ (List.mem_of_getElem? (i := 232) rfl)) rfl
theorem wm_1914 : (.lays "PennyBakeryModel" "PennyBakeryModel" "begin" "I" : Cond) ∈ wAll := wg (wt_8 _ (List.mem_of_getElem? (i := 234) rfl)) rfl
theorem wm_1916 : (.lays "PennyBakeryModel" "PennyBakeryModel" "number" "I" : Cond) ∈ wAll := wg (wt_8 _ (List.mem_of_getElem? (i := 236) rfl)) rfl
theorem wm_1918 : (.lays "PennyBakeryModel" "PennyBakeryModel" "outputLength" "I" : Cond) ∈ wAll := wg (wt_8 _ (List.mem_of_getElem? (i := 238) rfl)) rfl
theorem wm_1920 : (.superclass "PennyBakeryModel" "java/lang/Object" : Cond) ∈ wAll := wg (wt_9 _ (List.mem_of_getElem? (i := 0) rfl)) rfl
theorem wm_1921 : (.methodLink RL 183 yX9_thrown : Cond) ∈ wAll := wg (wt_9 _ (List.mem_of_getElem? (i := 1) rfl)) rfl
theorem wm_1922 : (.instanceMethod yX9_thrown : Cond) ∈ wAll := wg (wt_9 _ (List.mem_of_getElem? (i := 2) rfl)) rfl
theorem wm_1923 : (.selects RX9 yX9_thrown yX9_thrown : Cond) ∈ wAll := wg (wt_9 _ (List.mem_of_getElem? (i := 3) rfl)) rfl
theorem wm_1924 : (.code yX9_thrown cX9_thrown 1 (Option.some FieldType.int) : Cond) ∈ wAll := wg (wt_9 _ (List.mem_of_getElem? (i := 4) rfl)) rfl
theorem wm_1925 : (.methodLink RL 144 yX9_feed : Cond) ∈ wAll := wg (wt_9 _ (List.mem_of_getElem? (i := 5) rfl)) rfl
theorem wm_1926 : (.instanceMethod yX9_feed : Cond) ∈ wAll := wg (wt_9 _ (List.mem_of_getElem? (i := 6) rfl)) rfl
theorem wm_1927 : (.selects RX9 yX9_feed yX9_feed : Cond) ∈ wAll := wg (wt_9 _ (List.mem_of_getElem? (i := 7) rfl)) rfl
theorem wm_1928 : (.code yX9_feed cX9_feed 9 (Option.some FieldType.int) : Cond) ∈ wAll := wg (wt_9 _ (List.mem_of_getElem? (i := 8) rfl)) rfl
theorem wm_1929 : (.methodLink RX9 127 yX9_byteOf : Cond) ∈ wAll := wg (wt_9 _ (List.mem_of_getElem? (i := 9) rfl)) rfl
theorem wm_1930 : (.static yX9_byteOf : Cond) ∈ wAll := wg (wt_9 _ (List.mem_of_getElem? (i := 10) rfl)) rfl
theorem wm_1931 : (.code yX9_byteOf cX9_byteOf 7 (Option.some FieldType.int) : Cond) ∈ wAll := wg (wt_9 _ (List.mem_of_getElem? (i := 11) rfl)) rfl
theorem wm_1932 : (.methodLink RL 148 yX9_loadSetup : Cond) ∈ wAll := wg (wt_9 _ (List.mem_of_getElem? (i := 12) rfl)) rfl
theorem wm_1933 : (.methodLink RL 152 yX9_runScript : Cond) ∈ wAll := wg (wt_9 _ (List.mem_of_getElem? (i := 13) rfl)) rfl
theorem wm_1934 : (.instanceMethod yX9_runScript : Cond) ∈ wAll := wg (wt_9 _ (List.mem_of_getElem? (i := 14) rfl)) rfl
theorem wm_1935 : (.selects RX9 yX9_runScript yX9_runScript : Cond) ∈ wAll := wg (wt_9 _ (List.mem_of_getElem? (i := 15) rfl)) rfl
theorem wm_1936 : (.code yX9_runScript cX9_runScript 3 (Option.some FieldType.int) : Cond) ∈ wAll := wg (wt_9 _ (List.mem_of_getElem? (i := 16) rfl)) rfl
theorem wm_1937 : (.methodLink RX9 291 yX9_pushAside : Cond) ∈ wAll := wg (wt_9 _ (List.mem_of_getElem? (i := 17) rfl)) rfl
theorem wm_1939 : (.instanceMethod yX9_pushAside : Cond) ∈ wAll := wg (wt_9 _ (List.mem_of_getElem? (i := 19) rfl)) rfl
theorem wm_1940 : (.code yX9_pushAside cX9_pushAside 2 (Option.none : Option FieldType) : Cond) ∈ wAll := wg (wt_9 _ (List.mem_of_getElem? (i := 20) rfl)) rfl
theorem wm_1941 : (.methodLink RL 156 yX9_errorCode : Cond) ∈ wAll := wg (wt_9 _ (List.mem_of_getElem? (i := 21) rfl)) rfl
theorem wm_1942 : (.instanceMethod yX9_errorCode : Cond) ∈ wAll := wg (wt_9 _ (List.mem_of_getElem? (i := 22) rfl)) rfl
theorem wm_1943 : (.selects RX9 yX9_errorCode yX9_errorCode : Cond) ∈ wAll := wg (wt_9 _ (List.mem_of_getElem? (i := 23) rfl)) rfl
theorem wm_1944 : (.code yX9_errorCode cX9_errorCode 1 (Option.some FieldType.int) : Cond) ∈ wAll := wg (wt_9 _ (List.mem_of_getElem? (i := 24) rfl)) rfl
theorem wm_1945 : (.methodLink RX9 294 yX9_plain : Cond) ∈ wAll := wg (wt_9 _ (List.mem_of_getElem? (i := 25) rfl)) rfl
theorem wm_1947 : (.instanceMethod yX9_plain : Cond) ∈ wAll := wg (wt_9 _ (List.mem_of_getElem? (i := 27) rfl)) rfl
theorem wm_1948 : (.code yX9_plain cX9_plain 2 (Option.some FieldType.int) : Cond) ∈ wAll := wg (wt_9 _ (List.mem_of_getElem? (i := 28) rfl)) rfl
theorem wm_1949 : (.methodLink RL 160 yX9_errorPosition : Cond) ∈ wAll := wg (wt_9 _ (List.mem_of_getElem? (i := 29) rfl)) rfl
theorem wm_1950 : (.instanceMethod yX9_errorPosition : Cond) ∈ wAll := wg (wt_9 _ (List.mem_of_getElem? (i := 30) rfl)) rfl
theorem wm_1951 : (.selects RX9 yX9_errorPosition yX9_errorPosition : Cond) ∈ wAll := wg (wt_9 _ (List.mem_of_getElem? (i := 31) rfl)) rfl
theorem wm_1952 : (.code yX9_errorPosition cX9_errorPosition 1 (Option.some FieldType.int) : Cond) ∈ wAll := wg (wt_9 _ (List.mem_of_getElem? (i := 32) rfl)) rfl
theorem wm_1953 : (.methodLink RL 164 yX9_clock : Cond) ∈ wAll := wg (wt_9 _ (List.mem_of_getElem? (i := 33) rfl)) rfl
theorem wm_1954 : (.instanceMethod yX9_clock : Cond) ∈ wAll := wg (wt_9 _ (List.mem_of_getElem? (i := 34) rfl)) rfl
theorem wm_1955 : (.selects RX9 yX9_clock yX9_clock : Cond) ∈ wAll := wg (wt_9 _ (List.mem_of_getElem? (i := 35) rfl)) rfl
theorem wm_1956 : (.code yX9_clock cX9_clock 1 (Option.some FieldType.int) : Cond) ∈ wAll := wg (wt_9 _ (List.mem_of_getElem? (i := 36) rfl)) rfl
theorem wm_1957 : (.methodLink RL 168 yX9_cash : Cond) ∈ wAll := wg (wt_9 _ (List.mem_of_getElem? (i := 37) rfl)) rfl
theorem wm_1958 : (.instanceMethod yX9_cash : Cond) ∈ wAll := wg (wt_9 _ (List.mem_of_getElem? (i := 38) rfl)) rfl
theorem wm_1959 : (.selects RX9 yX9_cash yX9_cash : Cond) ∈ wAll := wg (wt_9 _ (List.mem_of_getElem? (i := 39) rfl)) rfl
theorem wm_1960 : (.code yX9_cash cX9_cash 1 (Option.some FieldType.int) : Cond) ∈ wAll := wg (wt_9 _ (List.mem_of_getElem? (i := 40) rfl)) rfl
theorem wm_1961 : (.methodLink RL 172 yX9_undoCount : Cond) ∈ wAll := wg (wt_9 _ (List.mem_of_getElem? (i := 41) rfl)) rfl
theorem wm_1962 : (.instanceMethod yX9_undoCount : Cond) ∈ wAll := wg (wt_9 _ (List.mem_of_getElem? (i := 42) rfl)) rfl
theorem wm_1963 : (.selects RX9 yX9_undoCount yX9_undoCount : Cond) ∈ wAll := wg (wt_9 _ (List.mem_of_getElem? (i := 43) rfl)) rfl
theorem wm_1964 : (.code yX9_undoCount cX9_undoCount 1 (Option.some FieldType.int) : Cond) ∈ wAll := wg (wt_9 _ (List.mem_of_getElem? (i := 44) rfl)) rfl
theorem wm_1965 : (.methodLink RL 176 yX9_flourCount : Cond) ∈ wAll := wg (wt_9 _ (List.mem_of_getElem? (i := 45) rfl)) rfl
theorem wm_1966 : (.instanceMethod yX9_flourCount : Cond) ∈ wAll := wg (wt_9 _ (List.mem_of_getElem? (i := 46) rfl)) rfl
theorem wm_1967 : (.selects RX9 yX9_flourCount yX9_flourCount : Cond) ∈ wAll := wg (wt_9 _ (List.mem_of_getElem? (i := 47) rfl)) rfl
theorem wm_1968 : (.code yX9_flourCount cX9_flourCount 1 (Option.some FieldType.int) : Cond) ∈ wAll := wg (wt_9 _ (List.mem_of_getElem? (i := 48) rfl)) rfl
theorem wm_1969 : (.methodLink RL 182 yX9_flourPrice : Cond) ∈ wAll := wg (wt_9 _ (List.mem_of_getElem? (i := 49) rfl)) rfl
theorem wm_1970 : (.instanceMethod yX9_flourPrice : Cond) ∈ wAll := wg (wt_9 _ (List.mem_of_getElem? (i := 50) rfl)) rfl
theorem wm_1971 : (.selects RX9 yX9_flourPrice yX9_flourPrice : Cond) ∈ wAll := wg (wt_9 _ (List.mem_of_getElem? (i := 51) rfl)) rfl
theorem wm_1972 : (.code yX9_flourPrice cX9_flourPrice 2 (Option.some FieldType.int) : Cond) ∈ wAll := wg (wt_9 _ (List.mem_of_getElem? (i := 52) rfl)) rfl
theorem wm_1973 : (.methodLink RX9 301 yX9_isFlour : Cond) ∈ wAll := wg (wt_9 _ (List.mem_of_getElem? (i := 53) rfl)) rfl
theorem wm_1975 : (.instanceMethod yX9_isFlour : Cond) ∈ wAll := wg (wt_9 _ (List.mem_of_getElem? (i := 55) rfl)) rfl
theorem wm_1976 : (.code yX9_isFlour cX9_isFlour 2 (Option.some FieldType.boolean) : Cond) ∈ wAll := wg (wt_9 _ (List.mem_of_getElem? (i := 56) rfl)) rfl
theorem wm_1977 : (.methodLink RX9 297 yX9_fails : Cond) ∈ wAll := wg (wt_9 _ (List.mem_of_getElem? (i := 57) rfl)) rfl
theorem wm_1979 : (.instanceMethod yX9_fails : Cond) ∈ wAll := wg (wt_9 _ (List.mem_of_getElem? (i := 59) rfl)) rfl
theorem wm_1980 : (.code yX9_fails cX9_fails 3 (Option.some FieldType.boolean) : Cond) ∈ wAll := wg (wt_9 _ (List.mem_of_getElem? (i := 60) rfl)) rfl
theorem wm_1981 : (.methodLink RL 188 yX9_unitsOf : Cond) ∈ wAll := wg (wt_9 _ (List.mem_of_getElem? (i := 61) rfl)) rfl
theorem wm_1982 : (.instanceMethod yX9_unitsOf : Cond) ∈ wAll := wg (wt_9 _ (List.mem_of_getElem? (i := 62) rfl)) rfl
theorem wm_1983 : (.selects RX9 yX9_unitsOf yX9_unitsOf : Cond) ∈ wAll := wg (wt_9 _ (List.mem_of_getElem? (i := 63) rfl)) rfl
theorem wm_1984 : (.code yX9_unitsOf cX9_unitsOf 2 (Option.some FieldType.int) : Cond) ∈ wAll := wg (wt_9 _ (List.mem_of_getElem? (i := 64) rfl)) rfl
theorem wm_1985 : (.methodLink RL 191 yX9_lotsOf : Cond) ∈ wAll := wg (wt_9 _ (List.mem_of_getElem? (i := 65) rfl)) rfl
theorem wm_1986 : (.instanceMethod yX9_lotsOf : Cond) ∈ wAll := wg (wt_9 _ (List.mem_of_getElem? (i := 66) rfl)) rfl
theorem wm_1987 : (.selects RX9 yX9_lotsOf yX9_lotsOf : Cond) ∈ wAll := wg (wt_9 _ (List.mem_of_getElem? (i := 67) rfl)) rfl
theorem wm_1988 : (.code yX9_lotsOf cX9_lotsOf 2 (Option.some FieldType.int) : Cond) ∈ wAll := wg (wt_9 _ (List.mem_of_getElem? (i := 68) rfl)) rfl
theorem wm_1989 : (.methodLink RL 195 yX9_lotUnits : Cond) ∈ wAll := wg (wt_9 _ (List.mem_of_getElem? (i := 69) rfl)) rfl
theorem wm_1990 : (.instanceMethod yX9_lotUnits : Cond) ∈ wAll := wg (wt_9 _ (List.mem_of_getElem? (i := 70) rfl)) rfl
theorem wm_1991 : (.selects RX9 yX9_lotUnits yX9_lotUnits : Cond) ∈ wAll := wg (wt_9 _ (List.mem_of_getElem? (i := 71) rfl)) rfl
theorem wm_1992 : (.code yX9_lotUnits cX9_lotUnits 3 (Option.some FieldType.int) : Cond) ∈ wAll := wg (wt_9 _ (List.mem_of_getElem? (i := 72) rfl)) rfl
theorem wm_1993 : (.methodLink RX9 304 yX9_askedLot : Cond) ∈ wAll := wg (wt_9 _ (List.mem_of_getElem? (i := 73) rfl)) rfl
theorem wm_1995 : (.instanceMethod yX9_askedLot : Cond) ∈ wAll := wg (wt_9 _ (List.mem_of_getElem? (i := 75) rfl)) rfl
theorem wm_1996 : (.code yX9_askedLot cX9_askedLot 4 (Option.some FieldType.int) : Cond) ∈ wAll := wg (wt_9 _ (List.mem_of_getElem? (i := 76) rfl)) rfl
theorem wm_1997 : (.methodLink RL 198 yX9_lotPrice : Cond) ∈ wAll := wg (wt_9 _ (List.mem_of_getElem? (i := 77) rfl)) rfl
theorem wm_1998 : (.instanceMethod yX9_lotPrice : Cond) ∈ wAll := wg (wt_9 _ (List.mem_of_getElem? (i := 78) rfl)) rfl
theorem wm_1999 : (.selects RX9 yX9_lotPrice yX9_lotPrice : Cond) ∈ wAll := wg (wt_9 _ (List.mem_of_getElem? (i := 79) rfl)) rfl
theorem wm_2000 : (.code yX9_lotPrice cX9_lotPrice 3 (Option.some FieldType.int) : Cond) ∈ wAll := wg (wt_9 _ (List.mem_of_getElem? (i := 80) rfl)) rfl
theorem wm_2001 : (.methodLink RL 202 yX9_breadCount : Cond) ∈ wAll := wg (wt_9 _ (List.mem_of_getElem? (i := 81) rfl)) rfl
theorem wm_2002 : (.instanceMethod yX9_breadCount : Cond) ∈ wAll := wg (wt_9 _ (List.mem_of_getElem? (i := 82) rfl)) rfl
theorem wm_2003 : (.selects RX9 yX9_breadCount yX9_breadCount : Cond) ∈ wAll := wg (wt_9 _ (List.mem_of_getElem? (i := 83) rfl)) rfl
theorem wm_2004 : (.code yX9_breadCount cX9_breadCount 1 (Option.some FieldType.int) : Cond) ∈ wAll := wg (wt_9 _ (List.mem_of_getElem? (i := 84) rfl)) rfl
theorem wm_2005 : (.methodLink RL 205 yX9_listPrice : Cond) ∈ wAll := wg (wt_9 _ (List.mem_of_getElem? (i := 85) rfl)) rfl
theorem wm_2006 : (.instanceMethod yX9_listPrice : Cond) ∈ wAll := wg (wt_9 _ (List.mem_of_getElem? (i := 86) rfl)) rfl
theorem wm_2007 : (.selects RX9 yX9_listPrice yX9_listPrice : Cond) ∈ wAll := wg (wt_9 _ (List.mem_of_getElem? (i := 87) rfl)) rfl
theorem wm_2008 : (.code yX9_listPrice cX9_listPrice 2 (Option.some FieldType.int) : Cond) ∈ wAll := wg (wt_9 _ (List.mem_of_getElem? (i := 88) rfl)) rfl
theorem wm_2009 : (.methodLink RX9 307 yX9_isBread : Cond) ∈ wAll := wg (wt_9 _ (List.mem_of_getElem? (i := 89) rfl)) rfl
theorem wm_2011 : (.instanceMethod yX9_isBread : Cond) ∈ wAll := wg (wt_9 _ (List.mem_of_getElem? (i := 91) rfl)) rfl
theorem wm_2012 : (.code yX9_isBread cX9_isBread 2 (Option.some FieldType.boolean) : Cond) ∈ wAll := wg (wt_9 _ (List.mem_of_getElem? (i := 92) rfl)) rfl
theorem wm_2013 : (.methodLink RL 208 yX9_minutesOf : Cond) ∈ wAll := wg (wt_9 _ (List.mem_of_getElem? (i := 93) rfl)) rfl
theorem wm_2014 : (.instanceMethod yX9_minutesOf : Cond) ∈ wAll := wg (wt_9 _ (List.mem_of_getElem? (i := 94) rfl)) rfl
theorem wm_2015 : (.selects RX9 yX9_minutesOf yX9_minutesOf : Cond) ∈ wAll := wg (wt_9 _ (List.mem_of_getElem? (i := 95) rfl)) rfl
theorem wm_2016 : (.code yX9_minutesOf cX9_minutesOf 2 (Option.some FieldType.int) : Cond) ∈ wAll := wg (wt_9 _ (List.mem_of_getElem? (i := 96) rfl)) rfl
theorem wm_2017 : (.methodLink RL 211 yX9_amountOf : Cond) ∈ wAll := wg (wt_9 _ (List.mem_of_getElem? (i := 97) rfl)) rfl
theorem wm_2018 : (.instanceMethod yX9_amountOf : Cond) ∈ wAll := wg (wt_9 _ (List.mem_of_getElem? (i := 98) rfl)) rfl
theorem wm_2019 : (.selects RX9 yX9_amountOf yX9_amountOf : Cond) ∈ wAll := wg (wt_9 _ (List.mem_of_getElem? (i := 99) rfl)) rfl
theorem wm_2020 : (.code yX9_amountOf cX9_amountOf 3 (Option.some FieldType.int) : Cond) ∈ wAll := wg (wt_9 _ (List.mem_of_getElem? (i := 100) rfl)) rfl
theorem wm_2021 : (.methodLink RL 214 yX9_standardCost : Cond) ∈ wAll := wg (wt_9 _ (List.mem_of_getElem? (i := 101) rfl)) rfl
theorem wm_2022 : (.instanceMethod yX9_standardCost : Cond) ∈ wAll := wg (wt_9 _ (List.mem_of_getElem? (i := 102) rfl)) rfl
theorem wm_2023 : (.selects RX9 yX9_standardCost yX9_standardCost : Cond) ∈ wAll := wg (wt_9 _ (List.mem_of_getElem? (i := 103) rfl)) rfl
theorem wm_2024 : (.code yX9_standardCost cX9_standardCost 2 (Option.some FieldType.int) : Cond) ∈ wAll := wg (wt_9 _ (List.mem_of_getElem? (i := 104) rfl)) rfl
theorem wm_2025 : (.methodLink RL 217 yX9_loavesOf : Cond) ∈ wAll := wg (wt_9 _ (List.mem_of_getElem? (i := 105) rfl)) rfl
theorem wm_2026 : (.instanceMethod yX9_loavesOf : Cond) ∈ wAll := wg (wt_9 _ (List.mem_of_getElem? (i := 106) rfl)) rfl
theorem wm_2027 : (.selects RX9 yX9_loavesOf yX9_loavesOf : Cond) ∈ wAll := wg (wt_9 _ (List.mem_of_getElem? (i := 107) rfl)) rfl
theorem wm_2028 : (.code yX9_loavesOf cX9_loavesOf 2 (Option.some FieldType.int) : Cond) ∈ wAll := wg (wt_9 _ (List.mem_of_getElem? (i := 108) rfl)) rfl
theorem wm_2029 : (.methodLink RL 221 yX9_ovenCount : Cond) ∈ wAll := wg (wt_9 _ (List.mem_of_getElem? (i := 109) rfl)) rfl
theorem wm_2030 : (.instanceMethod yX9_ovenCount : Cond) ∈ wAll := wg (wt_9 _ (List.mem_of_getElem? (i := 110) rfl)) rfl
theorem wm_2031 : (.selects RX9 yX9_ovenCount yX9_ovenCount : Cond) ∈ wAll := wg (wt_9 _ (List.mem_of_getElem? (i := 111) rfl)) rfl
theorem wm_2032 : (.code yX9_ovenCount cX9_ovenCount 1 (Option.some FieldType.int) : Cond) ∈ wAll := wg (wt_9 _ (List.mem_of_getElem? (i := 112) rfl)) rfl
theorem wm_2033 : (.methodLink RL 224 yX9_freeAt : Cond) ∈ wAll := wg (wt_9 _ (List.mem_of_getElem? (i := 113) rfl)) rfl
theorem wm_2034 : (.instanceMethod yX9_freeAt : Cond) ∈ wAll := wg (wt_9 _ (List.mem_of_getElem? (i := 114) rfl)) rfl
theorem wm_2035 : (.selects RX9 yX9_freeAt yX9_freeAt : Cond) ∈ wAll := wg (wt_9 _ (List.mem_of_getElem? (i := 115) rfl)) rfl
theorem wm_2036 : (.code yX9_freeAt cX9_freeAt 2 (Option.some FieldType.int) : Cond) ∈ wAll := wg (wt_9 _ (List.mem_of_getElem? (i := 116) rfl)) rfl
theorem wm_2037 : (.methodLink RL 228 yX9_nextOven : Cond) ∈ wAll := wg (wt_9 _ (List.mem_of_getElem? (i := 117) rfl)) rfl
theorem wm_2038 : (.instanceMethod yX9_nextOven : Cond) ∈ wAll := wg (wt_9 _ (List.mem_of_getElem? (i := 118) rfl)) rfl
theorem wm_2039 : (.selects RX9 yX9_nextOven yX9_nextOven : Cond) ∈ wAll := wg (wt_9 _ (List.mem_of_getElem? (i := 119) rfl)) rfl
theorem wm_2040 : (.code yX9_nextOven cX9_nextOven 1 (Option.some FieldType.int) : Cond) ∈ wAll := wg (wt_9 _ (List.mem_of_getElem? (i := 120) rfl)) rfl
theorem wm_2041 : (.methodLink RL 231 yX9_rateAt : Cond) ∈ wAll := wg (wt_9 _ (List.mem_of_getElem? (i := 121) rfl)) rfl
theorem wm_2042 : (.instanceMethod yX9_rateAt : Cond) ∈ wAll := wg (wt_9 _ (List.mem_of_getElem? (i := 122) rfl)) rfl
theorem wm_2043 : (.selects RX9 yX9_rateAt yX9_rateAt : Cond) ∈ wAll := wg (wt_9 _ (List.mem_of_getElem? (i := 123) rfl)) rfl
theorem wm_2044 : (.code yX9_rateAt cX9_rateAt 2 (Option.some FieldType.int) : Cond) ∈ wAll := wg (wt_9 _ (List.mem_of_getElem? (i := 124) rfl)) rfl
theorem wm_2045 : (.methodLink RL 235 yX9_standardRate : Cond) ∈ wAll := wg (wt_9 _ (List.mem_of_getElem? (i := 125) rfl)) rfl
theorem wm_2046 : (.instanceMethod yX9_standardRate : Cond) ∈ wAll := wg (wt_9 _ (List.mem_of_getElem? (i := 126) rfl)) rfl
theorem wm_2047 : (.selects RX9 yX9_standardRate yX9_standardRate : Cond) ∈ wAll := wg (wt_9 _ (List.mem_of_getElem? (i := 127) rfl)) rfl
theorem wm_2048 : (.code yX9_standardRate cX9_standardRate 1 (Option.some FieldType.int) : Cond) ∈ wAll := wg (wt_9 _ (List.mem_of_getElem? (i := 128) rfl)) rfl
theorem wm_2049 : (.methodLink RL 239 yX9_batchCount : Cond) ∈ wAll := wg (wt_9 _ (List.mem_of_getElem? (i := 129) rfl)) rfl
theorem wm_2050 : (.instanceMethod yX9_batchCount : Cond) ∈ wAll := wg (wt_9 _ (List.mem_of_getElem? (i := 130) rfl)) rfl
theorem wm_2051 : (.selects RX9 yX9_batchCount yX9_batchCount : Cond) ∈ wAll := wg (wt_9 _ (List.mem_of_getElem? (i := 131) rfl)) rfl
theorem wm_2052 : (.code yX9_batchCount cX9_batchCount 1 (Option.some FieldType.int) : Cond) ∈ wAll := wg (wt_9 _ (List.mem_of_getElem? (i := 132) rfl)) rfl
theorem wm_2053 : (.methodLink RL 242 yX9_batchBread : Cond) ∈ wAll := wg (wt_9 _ (List.mem_of_getElem? (i := 133) rfl)) rfl
theorem wm_2054 : (.instanceMethod yX9_batchBread : Cond) ∈ wAll := wg (wt_9 _ (List.mem_of_getElem? (i := 134) rfl)) rfl
theorem wm_2055 : (.selects RX9 yX9_batchBread yX9_batchBread : Cond) ∈ wAll := wg (wt_9 _ (List.mem_of_getElem? (i := 135) rfl)) rfl
theorem wm_2056 : (.code yX9_batchBread cX9_batchBread 2 (Option.some FieldType.int) : Cond) ∈ wAll := wg (wt_9 _ (List.mem_of_getElem? (i := 136) rfl)) rfl
theorem wm_2057 : (.methodLink RX9 310 yX9_isBatch : Cond) ∈ wAll := wg (wt_9 _ (List.mem_of_getElem? (i := 137) rfl)) rfl
theorem wm_2059 : (.instanceMethod yX9_isBatch : Cond) ∈ wAll := wg (wt_9 _ (List.mem_of_getElem? (i := 139) rfl)) rfl
theorem wm_2060 : (.code yX9_isBatch cX9_isBatch 2 (Option.some FieldType.boolean) : Cond) ∈ wAll := wg (wt_9 _ (List.mem_of_getElem? (i := 140) rfl)) rfl
theorem wm_2061 : (.methodLink RL 245 yX9_goodLoaves : Cond) ∈ wAll := wg (wt_9 _ (List.mem_of_getElem? (i := 141) rfl)) rfl
theorem wm_2062 : (.instanceMethod yX9_goodLoaves : Cond) ∈ wAll := wg (wt_9 _ (List.mem_of_getElem? (i := 142) rfl)) rfl
theorem wm_2063 : (.selects RX9 yX9_goodLoaves yX9_goodLoaves : Cond) ∈ wAll := wg (wt_9 _ (List.mem_of_getElem? (i := 143) rfl)) rfl
theorem wm_2064 : (.code yX9_goodLoaves cX9_goodLoaves 2 (Option.some FieldType.int) : Cond) ∈ wAll := wg (wt_9 _ (List.mem_of_getElem? (i := 144) rfl)) rfl
theorem wm_2065 : (.methodLink RX9 124 yX9_good : Cond) ∈ wAll := wg (wt_9 _ (List.mem_of_getElem? (i := 145) rfl)) rfl
theorem wm_2067 : (.instanceMethod yX9_good : Cond) ∈ wAll := wg (wt_9 _ (List.mem_of_getElem? (i := 147) rfl)) rfl
theorem wm_2068 : (.code yX9_good cX9_good 2 (Option.some FieldType.int) : Cond) ∈ wAll := wg (wt_9 _ (List.mem_of_getElem? (i := 148) rfl)) rfl
theorem wm_2069 : (.methodLink RL 248 yX9_startOf : Cond) ∈ wAll := wg (wt_9 _ (List.mem_of_getElem? (i := 149) rfl)) rfl
theorem wm_2070 : (.instanceMethod yX9_startOf : Cond) ∈ wAll := wg (wt_9 _ (List.mem_of_getElem? (i := 150) rfl)) rfl
theorem wm_2071 : (.selects RX9 yX9_startOf yX9_startOf : Cond) ∈ wAll := wg (wt_9 _ (List.mem_of_getElem? (i := 151) rfl)) rfl
theorem wm_2072 : (.code yX9_startOf cX9_startOf 2 (Option.some FieldType.int) : Cond) ∈ wAll := wg (wt_9 _ (List.mem_of_getElem? (i := 152) rfl)) rfl
theorem wm_2073 : (.methodLink RL 251 yX9_ovenMinutes : Cond) ∈ wAll := wg (wt_9 _ (List.mem_of_getElem? (i := 153) rfl)) rfl
theorem wm_2074 : (.instanceMethod yX9_ovenMinutes : Cond) ∈ wAll := wg (wt_9 _ (List.mem_of_getElem? (i := 154) rfl)) rfl
theorem wm_2075 : (.selects RX9 yX9_ovenMinutes yX9_ovenMinutes : Cond) ∈ wAll := wg (wt_9 _ (List.mem_of_getElem? (i := 155) rfl)) rfl
theorem wm_2076 : (.code yX9_ovenMinutes cX9_ovenMinutes 2 (Option.some FieldType.int) : Cond) ∈ wAll := wg (wt_9 _ (List.mem_of_getElem? (i := 156) rfl)) rfl
theorem wm_2077 : (.methodLink RL 254 yX9_costOf : Cond) ∈ wAll := wg (wt_9 _ (List.mem_of_getElem? (i := 157) rfl)) rfl
theorem wm_2078 : (.instanceMethod yX9_costOf : Cond) ∈ wAll := wg (wt_9 _ (List.mem_of_getElem? (i := 158) rfl)) rfl
theorem wm_2079 : (.selects RX9 yX9_costOf yX9_costOf : Cond) ∈ wAll := wg (wt_9 _ (List.mem_of_getElem? (i := 159) rfl)) rfl
theorem wm_2080 : (.code yX9_costOf cX9_costOf 2 (Option.some FieldType.int) : Cond) ∈ wAll := wg (wt_9 _ (List.mem_of_getElem? (i := 160) rfl)) rfl
theorem wm_2081 : (.methodLink RL 257 yX9_lossOf : Cond) ∈ wAll := wg (wt_9 _ (List.mem_of_getElem? (i := 161) rfl)) rfl
theorem wm_2082 : (.instanceMethod yX9_lossOf : Cond) ∈ wAll := wg (wt_9 _ (List.mem_of_getElem? (i := 162) rfl)) rfl
theorem wm_2083 : (.selects RX9 yX9_lossOf yX9_lossOf : Cond) ∈ wAll := wg (wt_9 _ (List.mem_of_getElem? (i := 163) rfl)) rfl
theorem wm_2084 : (.code yX9_lossOf cX9_lossOf 2 (Option.some FieldType.int) : Cond) ∈ wAll := wg (wt_9 _ (List.mem_of_getElem? (i := 164) rfl)) rfl
theorem wm_2085 : (.methodLink RX9 313 yX9_loss : Cond) ∈ wAll := wg (wt_9 _ (List.mem_of_getElem? (i := 165) rfl)) rfl
theorem wm_2087 : (.instanceMethod yX9_loss : Cond) ∈ wAll := wg (wt_9 _ (List.mem_of_getElem? (i := 167) rfl)) rfl
theorem wm_2088 : (.code yX9_loss cX9_loss 2 (Option.some FieldType.int) : Cond) ∈ wAll := wg (wt_9 _ (List.mem_of_getElem? (i := 168) rfl)) rfl
theorem wm_2089 : (.methodLink RL 260 yX9_gapOf : Cond) ∈ wAll := wg (wt_9 _ (List.mem_of_getElem? (i := 169) rfl)) rfl
theorem wm_2090 : (.instanceMethod yX9_gapOf : Cond) ∈ wAll := wg (wt_9 _ (List.mem_of_getElem? (i := 170) rfl)) rfl
theorem wm_2091 : (.selects RX9 yX9_gapOf yX9_gapOf : Cond) ∈ wAll := wg (wt_9 _ (List.mem_of_getElem? (i := 171) rfl)) rfl
theorem wm_2092 : (.code yX9_gapOf cX9_gapOf 3 (Option.some FieldType.int) : Cond) ∈ wAll := wg (wt_9 _ (List.mem_of_getElem? (i := 172) rfl)) rfl
theorem wm_2093 : (.methodLink RL 263 yX9_kindAt : Cond) ∈ wAll := wg (wt_9 _ (List.mem_of_getElem? (i := 173) rfl)) rfl
theorem wm_2094 : (.instanceMethod yX9_kindAt : Cond) ∈ wAll := wg (wt_9 _ (List.mem_of_getElem? (i := 174) rfl)) rfl
theorem wm_2095 : (.selects RX9 yX9_kindAt yX9_kindAt : Cond) ∈ wAll := wg (wt_9 _ (List.mem_of_getElem? (i := 175) rfl)) rfl
theorem wm_2096 : (.code yX9_kindAt cX9_kindAt 4 (Option.some FieldType.int) : Cond) ∈ wAll := wg (wt_9 _ (List.mem_of_getElem? (i := 176) rfl)) rfl
theorem wm_2097 : (.methodLink RX9 316 yX9_kindsBefore : Cond) ∈ wAll := wg (wt_9 _ (List.mem_of_getElem? (i := 177) rfl)) rfl
theorem wm_2099 : (.instanceMethod yX9_kindsBefore : Cond) ∈ wAll := wg (wt_9 _ (List.mem_of_getElem? (i := 179) rfl)) rfl
theorem wm_2100 : (.code yX9_kindsBefore cX9_kindsBefore 6 (Option.some FieldType.int) : Cond) ∈ wAll := wg (wt_9 _ (List.mem_of_getElem? (i := 180) rfl)) rfl
theorem wm_2101 : (.methodLink RL 266 yX9_gapSum : Cond) ∈ wAll := wg (wt_9 _ (List.mem_of_getElem? (i := 181) rfl)) rfl
theorem wm_2102 : (.instanceMethod yX9_gapSum : Cond) ∈ wAll := wg (wt_9 _ (List.mem_of_getElem? (i := 182) rfl)) rfl
theorem wm_2103 : (.selects RX9 yX9_gapSum yX9_gapSum : Cond) ∈ wAll := wg (wt_9 _ (List.mem_of_getElem? (i := 183) rfl)) rfl
theorem wm_2104 : (.code yX9_gapSum cX9_gapSum 2 (Option.some FieldType.int) : Cond) ∈ wAll := wg (wt_9 _ (List.mem_of_getElem? (i := 184) rfl)) rfl
theorem wm_2105 : (.methodLink RX9 319 yX9_sumOf : Cond) ∈ wAll := wg (wt_9 _ (List.mem_of_getElem? (i := 185) rfl)) rfl
theorem wm_2107 : (.instanceMethod yX9_sumOf : Cond) ∈ wAll := wg (wt_9 _ (List.mem_of_getElem? (i := 187) rfl)) rfl
theorem wm_2108 : (.code yX9_sumOf cX9_sumOf 4 (Option.some FieldType.int) : Cond) ∈ wAll := wg (wt_9 _ (List.mem_of_getElem? (i := 188) rfl)) rfl
theorem wm_2109 : (.methodLink RL 269 yX9_priceGap : Cond) ∈ wAll := wg (wt_9 _ (List.mem_of_getElem? (i := 189) rfl)) rfl
theorem wm_2110 : (.instanceMethod yX9_priceGap : Cond) ∈ wAll := wg (wt_9 _ (List.mem_of_getElem? (i := 190) rfl)) rfl
theorem wm_2111 : (.selects RX9 yX9_priceGap yX9_priceGap : Cond) ∈ wAll := wg (wt_9 _ (List.mem_of_getElem? (i := 191) rfl)) rfl
theorem wm_2112 : (.code yX9_priceGap cX9_priceGap 2 (Option.some FieldType.int) : Cond) ∈ wAll := wg (wt_9 _ (List.mem_of_getElem? (i := 192) rfl)) rfl
theorem wm_2113 : (.methodLink RL 272 yX9_useGap : Cond) ∈ wAll := wg (wt_9 _ (List.mem_of_getElem? (i := 193) rfl)) rfl
theorem wm_2114 : (.instanceMethod yX9_useGap : Cond) ∈ wAll := wg (wt_9 _ (List.mem_of_getElem? (i := 194) rfl)) rfl
theorem wm_2115 : (.selects RX9 yX9_useGap yX9_useGap : Cond) ∈ wAll := wg (wt_9 _ (List.mem_of_getElem? (i := 195) rfl)) rfl
theorem wm_2116 : (.code yX9_useGap cX9_useGap 2 (Option.some FieldType.int) : Cond) ∈ wAll := wg (wt_9 _ (List.mem_of_getElem? (i := 196) rfl)) rfl
theorem wm_2117 : (.methodLink RL 276 yX9_totalLoss : Cond) ∈ wAll := wg (wt_9 _ (List.mem_of_getElem? (i := 197) rfl)) rfl
theorem wm_2118 : (.instanceMethod yX9_totalLoss : Cond) ∈ wAll := wg (wt_9 _ (List.mem_of_getElem? (i := 198) rfl)) rfl
theorem wm_2119 : (.selects RX9 yX9_totalLoss yX9_totalLoss : Cond) ∈ wAll := wg (wt_9 _ (List.mem_of_getElem? (i := 199) rfl)) rfl
theorem wm_2120 : (.code yX9_totalLoss cX9_totalLoss 1 (Option.some FieldType.int) : Cond) ∈ wAll := wg (wt_9 _ (List.mem_of_getElem? (i := 200) rfl)) rfl
theorem wm_2121 : (.methodLink RX9 322 yX9_allGaps : Cond) ∈ wAll := wg (wt_9 _ (List.mem_of_getElem? (i := 201) rfl)) rfl
theorem wm_2123 : (.instanceMethod yX9_allGaps : Cond) ∈ wAll := wg (wt_9 _ (List.mem_of_getElem? (i := 203) rfl)) rfl
theorem wm_2124 : (.code yX9_allGaps cX9_allGaps 3 (Option.some FieldType.int) : Cond) ∈ wAll := wg (wt_9 _ (List.mem_of_getElem? (i := 204) rfl)) rfl
theorem wm_2125 : (.methodLink RL 280 yX9_worstBatch : Cond) ∈ wAll := wg (wt_9 _ (List.mem_of_getElem? (i := 205) rfl)) rfl
theorem wm_2126 : (.instanceMethod yX9_worstBatch : Cond) ∈ wAll := wg (wt_9 _ (List.mem_of_getElem? (i := 206) rfl)) rfl
theorem wm_2127 : (.selects RX9 yX9_worstBatch yX9_worstBatch : Cond) ∈ wAll := wg (wt_9 _ (List.mem_of_getElem? (i := 207) rfl)) rfl
theorem wm_2128 : (.code yX9_worstBatch cX9_worstBatch 3 (Option.some FieldType.int) : Cond) ∈ wAll := wg (wt_9 _ (List.mem_of_getElem? (i := 208) rfl)) rfl
theorem wm_2129 : (.methodLink RL 284 yX9_worstKind : Cond) ∈ wAll := wg (wt_9 _ (List.mem_of_getElem? (i := 209) rfl)) rfl
theorem wm_2130 : (.instanceMethod yX9_worstKind : Cond) ∈ wAll := wg (wt_9 _ (List.mem_of_getElem? (i := 210) rfl)) rfl
theorem wm_2131 : (.selects RX9 yX9_worstKind yX9_worstKind : Cond) ∈ wAll := wg (wt_9 _ (List.mem_of_getElem? (i := 211) rfl)) rfl
theorem wm_2132 : (.code yX9_worstKind cX9_worstKind 3 (Option.some FieldType.int) : Cond) ∈ wAll := wg (wt_9 _ (List.mem_of_getElem? (i := 212) rfl)) rfl
theorem wm_2133 : (.methodLink RL 288 yX9_bakeObstacle : Cond) ∈ wAll := wg (wt_9 _ (List.mem_of_getElem? (i := 213) rfl)) rfl
theorem wm_2134 : (.instanceMethod yX9_bakeObstacle : Cond) ∈ wAll := wg (wt_9 _ (List.mem_of_getElem? (i := 214) rfl)) rfl
theorem wm_2135 : (.selects RX9 yX9_bakeObstacle yX9_bakeObstacle : Cond) ∈ wAll := wg (wt_9 _ (List.mem_of_getElem? (i := 215) rfl)) rfl
theorem wm_2136 : (.code yX9_bakeObstacle cX9_bakeObstacle 5 (Option.some FieldType.int) : Cond) ∈ wAll := wg (wt_9 _ (List.mem_of_getElem? (i := 216) rfl)) rfl
theorem wm_2137 : (.methodLink RX9 325 yX9_isExtra : Cond) ∈ wAll := wg (wt_9 _ (List.mem_of_getElem? (i := 217) rfl)) rfl
theorem wm_2138 : (.static yX9_isExtra : Cond) ∈ wAll := wg (wt_9 _ (List.mem_of_getElem? (i := 218) rfl)) rfl
theorem wm_2139 : (.code yX9_isExtra cX9_isExtra 1 (Option.some FieldType.boolean) : Cond) ∈ wAll := wg (wt_9 _ (List.mem_of_getElem? (i := 219) rfl)) rfl
theorem wm_2140 : (.methodLink RL 291 yX9_lossIfBaked : Cond) ∈ wAll := wg (wt_9 _ (List.mem_of_getElem? (i := 220) rfl)) rfl
theorem wm_2141 : (.instanceMethod yX9_lossIfBaked : Cond) ∈ wAll := wg (wt_9 _ (List.mem_of_getElem? (i := 221) rfl)) rfl
theorem wm_2142 : (.selects RX9 yX9_lossIfBaked yX9_lossIfBaked : Cond) ∈ wAll := wg (wt_9 _ (List.mem_of_getElem? (i := 222) rfl)) rfl
theorem wm_2143 : (.code yX9_lossIfBaked cX9_lossIfBaked 4 (Option.some FieldType.int) : Cond) ∈ wAll := wg (wt_9 _ (List.mem_of_getElem? (i := 223) rfl)) rfl
theorem wm_2144 : (.methodLink RX9 328 yX9_isPlan : Cond) ∈ wAll := wg (wt_9 _ (List.mem_of_getElem? (i := 224) rfl)) rfl
theorem wm_2146 : (.instanceMethod yX9_isPlan : Cond) ∈ wAll := wg (wt_9 _ (List.mem_of_getElem? (i := 226) rfl)) rfl
theorem wm_2147 : (.code yX9_isPlan cX9_isPlan 3 (Option.some FieldType.boolean) : Cond) ∈ wAll := wg (wt_9 _ (List.mem_of_getElem? (i := 227) rfl)) rfl
theorem wm_2148 : (.methodLink RL 294 yX9_possibleLoaves : Cond) ∈ wAll := wg (wt_9 _ (List.mem_of_getElem? (i := 228) rfl)) rfl
theorem wm_2149 : (.instanceMethod yX9_possibleLoaves : Cond) ∈ wAll := wg (wt_9 _ (List.mem_of_getElem? (i := 229) rfl)) rfl
theorem wm_2150 : (.selects RX9 yX9_possibleLoaves yX9_possibleLoaves : Cond) ∈ wAll := wg (wt_9 _ (List.mem_of_getElem? (i := 230) rfl)) rfl
theorem wm_2151 : (.code yX9_possibleLoaves cX9_possibleLoaves 3 (Option.some FieldType.int) : Cond) ∈ wAll := wg (wt_9 _ (List.mem_of_getElem? (i := 231) rfl)) rfl
theorem wm_2152 : (.methodLink RL 297 yX9_bestWait : Cond) ∈ wAll := wg (wt_9 _ (List.mem_of_getElem? (i := 232) rfl)) rfl
theorem wm_2153 : (.instanceMethod yX9_bestWait : Cond) ∈ wAll := wg (wt_9 _ (List.mem_of_getElem? (i := 233) rfl)) rfl
theorem wm_2154 : (.selects RX9 yX9_bestWait yX9_bestWait : Cond) ∈ wAll := wg (wt_9 _ (List.mem_of_getElem? (i := 234) rfl)) rfl
theorem wm_2155 : (.code yX9_bestWait cX9_bestWait 8 (Option.some FieldType.int) : Cond) ∈ wAll := wg (wt_9 _ (List.mem_of_getElem? (i := 235) rfl)) rfl
theorem wm_2156 : (.methodLink RL 301 yX9_income : Cond) ∈ wAll := wg (wt_9 _ (List.mem_of_getElem? (i := 236) rfl)) rfl
theorem wm_2157 : (.instanceMethod yX9_income : Cond) ∈ wAll := wg (wt_9 _ (List.mem_of_getElem? (i := 237) rfl)) rfl
theorem wm_2158 : (.selects RX9 yX9_income yX9_income : Cond) ∈ wAll := wg (wt_9 _ (List.mem_of_getElem? (i := 238) rfl)) rfl
theorem wm_2159 : (.code yX9_income cX9_income 1 (Option.some FieldType.int) : Cond) ∈ wAll := wg (wt_9 _ (List.mem_of_getElem? (i := 239) rfl)) rfl
theorem wm_2160 : (.methodLink RL 305 yX9_spentOnFlour : Cond) ∈ wAll := wg (wt_10 _ (List.mem_of_getElem? (i := 0) rfl)) rfl
theorem wm_2161 : (.instanceMethod yX9_spentOnFlour : Cond) ∈ wAll := wg (wt_10 _ (List.mem_of_getElem? (i := 1) rfl)) rfl
theorem wm_2162 : (.selects RX9 yX9_spentOnFlour yX9_spentOnFlour : Cond) ∈ wAll := wg (wt_10 _ (List.mem_of_getElem? (i := 2) rfl)) rfl
theorem wm_2163 : (.code yX9_spentOnFlour cX9_spentOnFlour 1 (Option.some FieldType.int) : Cond) ∈ wAll := wg (wt_10 _ (List.mem_of_getElem? (i := 3) rfl)) rfl
theorem wm_2164 : (.methodLink RL 309 yX9_spentOnOvens : Cond) ∈ wAll := wg (wt_10 _ (List.mem_of_getElem? (i := 4) rfl)) rfl
theorem wm_2165 : (.instanceMethod yX9_spentOnOvens : Cond) ∈ wAll := wg (wt_10 _ (List.mem_of_getElem? (i := 5) rfl)) rfl
theorem wm_2166 : (.selects RX9 yX9_spentOnOvens yX9_spentOnOvens : Cond) ∈ wAll := wg (wt_10 _ (List.mem_of_getElem? (i := 6) rfl)) rfl
theorem wm_2167 : (.code yX9_spentOnOvens cX9_spentOnOvens 1 (Option.some FieldType.int) : Cond) ∈ wAll := wg (wt_10 _ (List.mem_of_getElem? (i := 7) rfl)) rfl
theorem wm_2168 : (.methodLink RL 313 yX9_flourValue : Cond) ∈ wAll := wg (wt_10 _ (List.mem_of_getElem? (i := 8) rfl)) rfl
theorem wm_2169 : (.instanceMethod yX9_flourValue : Cond) ∈ wAll := wg (wt_10 _ (List.mem_of_getElem? (i := 9) rfl)) rfl
theorem wm_2170 : (.selects RX9 yX9_flourValue yX9_flourValue : Cond) ∈ wAll := wg (wt_10 _ (List.mem_of_getElem? (i := 10) rfl)) rfl
theorem wm_2171 : (.code yX9_flourValue cX9_flourValue 1 (Option.some FieldType.int) : Cond) ∈ wAll := wg (wt_10 _ (List.mem_of_getElem? (i := 11) rfl)) rfl
theorem wm_2172 : (.methodLink RX9 331 yX9_worthOfFlour : Cond) ∈ wAll := wg (wt_10 _ (List.mem_of_getElem? (i := 12) rfl)) rfl
theorem wm_2174 : (.instanceMethod yX9_worthOfFlour : Cond) ∈ wAll := wg (wt_10 _ (List.mem_of_getElem? (i := 14) rfl)) rfl
theorem wm_2175 : (.code yX9_worthOfFlour cX9_worthOfFlour 4 (Option.some FieldType.int) : Cond) ∈ wAll := wg (wt_10 _ (List.mem_of_getElem? (i := 15) rfl)) rfl
theorem wm_2176 : (.methodLink RL 317 yX9_loafValue : Cond) ∈ wAll := wg (wt_10 _ (List.mem_of_getElem? (i := 16) rfl)) rfl
theorem wm_2177 : (.instanceMethod yX9_loafValue : Cond) ∈ wAll := wg (wt_10 _ (List.mem_of_getElem? (i := 17) rfl)) rfl
theorem wm_2178 : (.selects RX9 yX9_loafValue yX9_loafValue : Cond) ∈ wAll := wg (wt_10 _ (List.mem_of_getElem? (i := 18) rfl)) rfl
theorem wm_2179 : (.code yX9_loafValue cX9_loafValue 1 (Option.some FieldType.int) : Cond) ∈ wAll := wg (wt_10 _ (List.mem_of_getElem? (i := 19) rfl)) rfl
theorem wm_2180 : (.methodLink RX9 334 yX9_worthOfLoaves : Cond) ∈ wAll := wg (wt_10 _ (List.mem_of_getElem? (i := 20) rfl)) rfl
theorem wm_2182 : (.instanceMethod yX9_worthOfLoaves : Cond) ∈ wAll := wg (wt_10 _ (List.mem_of_getElem? (i := 22) rfl)) rfl
theorem wm_2183 : (.code yX9_worthOfLoaves cX9_worthOfLoaves 3 (Option.some FieldType.int) : Cond) ∈ wAll := wg (wt_10 _ (List.mem_of_getElem? (i := 23) rfl)) rfl
theorem wm_2184 : (.methodLink RL 321 yX9_consistencyError : Cond) ∈ wAll := wg (wt_10 _ (List.mem_of_getElem? (i := 24) rfl)) rfl
theorem wm_2185 : (.instanceMethod yX9_consistencyError : Cond) ∈ wAll := wg (wt_10 _ (List.mem_of_getElem? (i := 25) rfl)) rfl
theorem wm_2186 : (.selects RX9 yX9_consistencyError yX9_consistencyError : Cond) ∈ wAll := wg (wt_10 _ (List.mem_of_getElem? (i := 26) rfl)) rfl
theorem wm_2187 : (.code yX9_consistencyError cX9_consistencyError 5 (Option.some FieldType.int) : Cond) ∈ wAll := wg (wt_10 _ (List.mem_of_getElem? (i := 27) rfl)) rfl
theorem wm_2188 : (.methodLink RX9 337 yJ9_abs_0f7a4 : Cond) ∈ wAll := wg (wt_10 _ (List.mem_of_getElem? (i := 28) rfl)) rfl
theorem wm_2189 : (.methodLink RX9 340 yX9_gapsOf : Cond) ∈ wAll := wg (wt_10 _ (List.mem_of_getElem? (i := 29) rfl)) rfl
theorem wm_2191 : (.instanceMethod yX9_gapsOf : Cond) ∈ wAll := wg (wt_10 _ (List.mem_of_getElem? (i := 31) rfl)) rfl
theorem wm_2192 : (.code yX9_gapsOf cX9_gapsOf 4 (Option.some FieldType.int) : Cond) ∈ wAll := wg (wt_10 _ (List.mem_of_getElem? (i := 32) rfl)) rfl
theorem wm_2193 : (.methodLink RL 326 yX9_meanLoss : Cond) ∈ wAll := wg (wt_10 _ (List.mem_of_getElem? (i := 33) rfl)) rfl
theorem wm_2194 : (.instanceMethod yX9_meanLoss : Cond) ∈ wAll := wg (wt_10 _ (List.mem_of_getElem? (i := 34) rfl)) rfl
theorem wm_2195 : (.selects RX9 yX9_meanLoss yX9_meanLoss : Cond) ∈ wAll := wg (wt_10 _ (List.mem_of_getElem? (i := 35) rfl)) rfl
theorem wm_2196 : (.code yX9_meanLoss cX9_meanLoss 3 (Option.some FieldType.double) : Cond) ∈ wAll := wg (wt_10 _ (List.mem_of_getElem? (i := 36) rfl)) rfl
theorem wm_2197 : (.methodLink RL 331 yX9_burntShare : Cond) ∈ wAll := wg (wt_10 _ (List.mem_of_getElem? (i := 37) rfl)) rfl
theorem wm_2198 : (.instanceMethod yX9_burntShare : Cond) ∈ wAll := wg (wt_10 _ (List.mem_of_getElem? (i := 38) rfl)) rfl
theorem wm_2199 : (.selects RX9 yX9_burntShare yX9_burntShare : Cond) ∈ wAll := wg (wt_10 _ (List.mem_of_getElem? (i := 39) rfl)) rfl
theorem wm_2200 : (.code yX9_burntShare cX9_burntShare 4 (Option.some FieldType.float) : Cond) ∈ wAll := wg (wt_10 _ (List.mem_of_getElem? (i := 40) rfl)) rfl
theorem wm_2201 : (.methodLink RL 334 yX9_addFlour : Cond) ∈ wAll := wg (wt_10 _ (List.mem_of_getElem? (i := 41) rfl)) rfl
theorem wm_2202 : (.instanceMethod yX9_addFlour : Cond) ∈ wAll := wg (wt_10 _ (List.mem_of_getElem? (i := 42) rfl)) rfl
theorem wm_2203 : (.selects RX9 yX9_addFlour yX9_addFlour : Cond) ∈ wAll := wg (wt_10 _ (List.mem_of_getElem? (i := 43) rfl)) rfl
theorem wm_2204 : (.code yX9_addFlour cX9_addFlour 2 (Option.some FieldType.int) : Cond) ∈ wAll := wg (wt_10 _ (List.mem_of_getElem? (i := 44) rfl)) rfl
theorem wm_2205 : (.methodLink RX9 343 yX9_record : Cond) ∈ wAll := wg (wt_10 _ (List.mem_of_getElem? (i := 45) rfl)) rfl
theorem wm_2207 : (.instanceMethod yX9_record : Cond) ∈ wAll := wg (wt_10 _ (List.mem_of_getElem? (i := 47) rfl)) rfl
theorem wm_2208 : (.code yX9_record cX9_record 2 (Option.none : Option FieldType) : Cond) ∈ wAll := wg (wt_10 _ (List.mem_of_getElem? (i := 48) rfl)) rfl
theorem wm_2209 : (.methodLink RL 338 yX9_addBread : Cond) ∈ wAll := wg (wt_10 _ (List.mem_of_getElem? (i := 49) rfl)) rfl
theorem wm_2210 : (.instanceMethod yX9_addBread : Cond) ∈ wAll := wg (wt_10 _ (List.mem_of_getElem? (i := 50) rfl)) rfl
theorem wm_2211 : (.selects RX9 yX9_addBread yX9_addBread : Cond) ∈ wAll := wg (wt_10 _ (List.mem_of_getElem? (i := 51) rfl)) rfl
theorem wm_2212 : (.code yX9_addBread cX9_addBread 4 (Option.some FieldType.int) : Cond) ∈ wAll := wg (wt_10 _ (List.mem_of_getElem? (i := 52) rfl)) rfl
theorem wm_2213 : (.methodLink RL 341 yX9_buy : Cond) ∈ wAll := wg (wt_10 _ (List.mem_of_getElem? (i := 53) rfl)) rfl
theorem wm_2214 : (.instanceMethod yX9_buy : Cond) ∈ wAll := wg (wt_10 _ (List.mem_of_getElem? (i := 54) rfl)) rfl
theorem wm_2215 : (.selects RX9 yX9_buy yX9_buy : Cond) ∈ wAll := wg (wt_10 _ (List.mem_of_getElem? (i := 55) rfl)) rfl
theorem wm_2216 : (.code yX9_buy cX9_buy 4 (Option.some FieldType.int) : Cond) ∈ wAll := wg (wt_10 _ (List.mem_of_getElem? (i := 56) rfl)) rfl
theorem wm_2217 : (.methodLink RL 344 yX9_setRate : Cond) ∈ wAll := wg (wt_10 _ (List.mem_of_getElem? (i := 57) rfl)) rfl
theorem wm_2218 : (.instanceMethod yX9_setRate : Cond) ∈ wAll := wg (wt_10 _ (List.mem_of_getElem? (i := 58) rfl)) rfl
theorem wm_2219 : (.selects RX9 yX9_setRate yX9_setRate : Cond) ∈ wAll := wg (wt_10 _ (List.mem_of_getElem? (i := 59) rfl)) rfl
theorem wm_2220 : (.code yX9_setRate cX9_setRate 3 (Option.some FieldType.int) : Cond) ∈ wAll := wg (wt_10 _ (List.mem_of_getElem? (i := 60) rfl)) rfl
theorem wm_2221 : (.methodLink RL 348 yX9_bake : Cond) ∈ wAll := wg (wt_10 _ (List.mem_of_getElem? (i := 61) rfl)) rfl
theorem wm_2222 : (.instanceMethod yX9_bake : Cond) ∈ wAll := wg (wt_10 _ (List.mem_of_getElem? (i := 62) rfl)) rfl
theorem wm_2223 : (.selects RX9 yX9_bake yX9_bake : Cond) ∈ wAll := wg (wt_10 _ (List.mem_of_getElem? (i := 63) rfl)) rfl
theorem wm_2224 : (.code yX9_bake cX9_bake 7 (Option.some FieldType.int) : Cond) ∈ wAll := wg (wt_10 _ (List.mem_of_getElem? (i := 64) rfl)) rfl
theorem wm_2225 : (.methodLink RL 351 yX9_sell : Cond) ∈ wAll := wg (wt_10 _ (List.mem_of_getElem? (i := 65) rfl)) rfl
theorem wm_2226 : (.instanceMethod yX9_sell : Cond) ∈ wAll := wg (wt_10 _ (List.mem_of_getElem? (i := 66) rfl)) rfl
theorem wm_2227 : (.selects RX9 yX9_sell yX9_sell : Cond) ∈ wAll := wg (wt_10 _ (List.mem_of_getElem? (i := 67) rfl)) rfl
theorem wm_2228 : (.code yX9_sell cX9_sell 4 (Option.some FieldType.int) : Cond) ∈ wAll := wg (wt_10 _ (List.mem_of_getElem? (i := 68) rfl)) rfl
theorem wm_2229 : (.methodLink RL 354 yX9_waitMinutes : Cond) ∈ wAll := wg (wt_10 _ (List.mem_of_getElem? (i := 69) rfl)) rfl
theorem wm_2230 : (.instanceMethod yX9_waitMinutes : Cond) ∈ wAll := wg (wt_10 _ (List.mem_of_getElem? (i := 70) rfl)) rfl
theorem wm_2231 : (.selects RX9 yX9_waitMinutes yX9_waitMinutes : Cond) ∈ wAll := wg (wt_10 _ (List.mem_of_getElem? (i := 71) rfl)) rfl
theorem wm_2232 : (.code yX9_waitMinutes cX9_waitMinutes 2 (Option.some FieldType.int) : Cond) ∈ wAll := wg (wt_10 _ (List.mem_of_getElem? (i := 72) rfl)) rfl
theorem wm_2233 : (.methodLink RL 358 yX9_undo : Cond) ∈ wAll := wg (wt_10 _ (List.mem_of_getElem? (i := 73) rfl)) rfl
theorem wm_2234 : (.instanceMethod yX9_undo : Cond) ∈ wAll := wg (wt_10 _ (List.mem_of_getElem? (i := 74) rfl)) rfl
theorem wm_2235 : (.selects RX9 yX9_undo yX9_undo : Cond) ∈ wAll := wg (wt_10 _ (List.mem_of_getElem? (i := 75) rfl)) rfl
theorem wm_2236 : (.code yX9_undo cX9_undo 2 (Option.some FieldType.int) : Cond) ∈ wAll := wg (wt_10 _ (List.mem_of_getElem? (i := 76) rfl)) rfl
theorem wm_2237 : (.methodLink RL 361 yX9_save : Cond) ∈ wAll := wg (wt_10 _ (List.mem_of_getElem? (i := 77) rfl)) rfl
theorem wm_2238 : (.instanceMethod yX9_save : Cond) ∈ wAll := wg (wt_10 _ (List.mem_of_getElem? (i := 78) rfl)) rfl
theorem wm_2239 : (.selects RX9 yX9_save yX9_save : Cond) ∈ wAll := wg (wt_10 _ (List.mem_of_getElem? (i := 79) rfl)) rfl
theorem wm_2240 : (.code yX9_save cX9_save 3 (Option.some FieldType.int) : Cond) ∈ wAll := wg (wt_10 _ (List.mem_of_getElem? (i := 80) rfl)) rfl
theorem wm_2241 : (.methodLink RL 364 yX9_restore : Cond) ∈ wAll := wg (wt_10 _ (List.mem_of_getElem? (i := 81) rfl)) rfl
theorem wm_2242 : (.instanceMethod yX9_restore : Cond) ∈ wAll := wg (wt_10 _ (List.mem_of_getElem? (i := 82) rfl)) rfl
theorem wm_2243 : (.selects RX9 yX9_restore yX9_restore : Cond) ∈ wAll := wg (wt_10 _ (List.mem_of_getElem? (i := 83) rfl)) rfl
theorem wm_2244 : (.code yX9_restore cX9_restore 3 (Option.some FieldType.int) : Cond) ∈ wAll := wg (wt_10 _ (List.mem_of_getElem? (i := 84) rfl)) rfl
theorem wm_2245 : (.methodLink RL 367 yX9_writeBatch : Cond) ∈ wAll := wg (wt_10 _ (List.mem_of_getElem? (i := 85) rfl)) rfl
theorem wm_2246 : (.instanceMethod yX9_writeBatch : Cond) ∈ wAll := wg (wt_10 _ (List.mem_of_getElem? (i := 86) rfl)) rfl
theorem wm_2247 : (.selects RX9 yX9_writeBatch yX9_writeBatch : Cond) ∈ wAll := wg (wt_10 _ (List.mem_of_getElem? (i := 87) rfl)) rfl
theorem wm_2248 : (.code yX9_writeBatch cX9_writeBatch 4 (Option.some FieldType.int) : Cond) ∈ wAll := wg (wt_10 _ (List.mem_of_getElem? (i := 88) rfl)) rfl
theorem wm_2249 : (.methodLink RX9 349 yX9_write : Cond) ∈ wAll := wg (wt_10 _ (List.mem_of_getElem? (i := 89) rfl)) rfl
theorem wm_2251 : (.instanceMethod yX9_write : Cond) ∈ wAll := wg (wt_10 _ (List.mem_of_getElem? (i := 91) rfl)) rfl
theorem wm_2252 : (.code yX9_write cX9_write 2 (Option.none : Option FieldType) : Cond) ∈ wAll := wg (wt_10 _ (List.mem_of_getElem? (i := 92) rfl)) rfl
theorem wm_2253 : (.methodLink RX9 353 yX9_signOf : Cond) ∈ wAll := wg (wt_10 _ (List.mem_of_getElem? (i := 93) rfl)) rfl
theorem wm_2254 : (.static yX9_signOf : Cond) ∈ wAll := wg (wt_10 _ (List.mem_of_getElem? (i := 94) rfl)) rfl
theorem wm_2255 : (.code yX9_signOf cX9_signOf 1 (Option.some FieldType.int) : Cond) ∈ wAll := wg (wt_10 _ (List.mem_of_getElem? (i := 95) rfl)) rfl
theorem wm_2256 : (.methodLink RX9 356 yX9_writeNumber : Cond) ∈ wAll := wg (wt_10 _ (List.mem_of_getElem? (i := 96) rfl)) rfl
theorem wm_2258 : (.instanceMethod yX9_writeNumber : Cond) ∈ wAll := wg (wt_10 _ (List.mem_of_getElem? (i := 98) rfl)) rfl
theorem wm_2259 : (.code yX9_writeNumber cX9_writeNumber 4 (Option.none : Option FieldType) : Cond) ∈ wAll := wg (wt_10 _ (List.mem_of_getElem? (i := 99) rfl)) rfl
theorem wm_2260 : (.methodLink RL 371 yX9_outputByte : Cond) ∈ wAll := wg (wt_10 _ (List.mem_of_getElem? (i := 100) rfl)) rfl
theorem wm_2261 : (.instanceMethod yX9_outputByte : Cond) ∈ wAll := wg (wt_10 _ (List.mem_of_getElem? (i := 101) rfl)) rfl
theorem wm_2262 : (.selects RX9 yX9_outputByte yX9_outputByte : Cond) ∈ wAll := wg (wt_10 _ (List.mem_of_getElem? (i := 102) rfl)) rfl
theorem wm_2263 : (.code yX9_outputByte cX9_outputByte 2 (Option.some FieldType.int) : Cond) ∈ wAll := wg (wt_10 _ (List.mem_of_getElem? (i := 103) rfl)) rfl
theorem wm_2264 : (.arrayClass FieldType.long : Cond) ∈ wAll := wg (wt_10 _ (List.mem_of_getElem? (i := 104) rfl)) rfl
theorem wm_2265 : (.sameMethod "java/lang/AbstractStringBuilder" "java/lang/AbstractStringBuilder" "length" "()I" : Cond) ∈ wAll := wg (wt_10 _ (List.mem_of_getElem? (i := 105) rfl)) rfl
theorem wm_2266 : (.sameMethod "java/lang/AbstractStringBuilder" "java/lang/AbstractStringBuilder" "charAt" "(I)C" : Cond) ∈ wAll := wg (wt_10 _ (List.mem_of_getElem? (i := 106) rfl)) rfl
theorem wm_2267 : (.sameMethod "java/lang/Throwable" "java/lang/Throwable" "fillInStackTrace" "(I)Ljava/lang/Throwable;" : Cond) ∈ wAll := wg (wt_10 _ (List.mem_of_getElem? (i := 107) rfl)) rfl
theorem wm_2268 : (.sameMethod "java/lang/AbstractStringBuilder" "java/lang/AbstractStringBuilder" "setLength" "(I)V" : Cond) ∈ wAll := wg (wt_10 _ (List.mem_of_getElem? (i := 108) rfl)) rfl
theorem wm_2269 : (.sameMethod "java/lang/AbstractStringBuilder" "java/lang/AbstractStringBuilder" "append" "(Ljava/lang/String;)Ljava/lang/AbstractStringBuilder;" : Cond) ∈ wAll := wg (wt_10 _ (List.mem_of_getElem? (i := 109) rfl)) rfl
theorem wm_2270 : (.sameMethod "java/lang/AbstractStringBuilder" "java/lang/AbstractStringBuilder" "appendNull" "()Ljava/lang/AbstractStringBuilder;" : Cond) ∈ wAll := wg (wt_10 _ (List.mem_of_getElem? (i := 110) rfl)) rfl
theorem wm_2271 : (.sameMethod "java/lang/AbstractStringBuilder" "java/lang/AbstractStringBuilder" "ensureCapacityInternal" "(I)V" : Cond) ∈ wAll := wg (wt_10 _ (List.mem_of_getElem? (i := 111) rfl)) rfl
theorem wm_2272 : (.sameMethod "java/lang/AbstractStringBuilder" "java/lang/AbstractStringBuilder" "newCapacity" "(I)I" : Cond) ∈ wAll := wg (wt_10 _ (List.mem_of_getElem? (i := 112) rfl)) rfl
theorem wm_2273 : (.sameMethod "java/lang/AbstractStringBuilder" "java/lang/AbstractStringBuilder" "putStringAt" "(ILjava/lang/String;)V" : Cond) ∈ wAll := wg (wt_10 _ (List.mem_of_getElem? (i := 113) rfl)) rfl
theorem wm_2274 : (.sameMethod "java/lang/AbstractStringBuilder" "java/lang/AbstractStringBuilder" "inflateIfNeededFor" "(Ljava/lang/String;)V" : Cond) ∈ wAll := wg (wt_10 _ (List.mem_of_getElem? (i := 114) rfl)) rfl
theorem wm_2275 : (.sameMethod "java/lang/AbstractStringBuilder" "java/lang/AbstractStringBuilder" "inflate" "()V" : Cond) ∈ wAll := wg (wt_10 _ (List.mem_of_getElem? (i := 115) rfl)) rfl
theorem wm_2276 : (.sameMethod "java/lang/AbstractStringBuilder" "java/lang/AbstractStringBuilder" "append" "(I)Ljava/lang/AbstractStringBuilder;" : Cond) ∈ wAll := wg (wt_10 _ (List.mem_of_getElem? (i := 116) rfl)) rfl
theorem wm_2277 : (.selects RJ4 yJ5_length_8abf5 yJ4_length_8abf5 : Cond) ∈ wAll := wg (wt_10 _ (List.mem_of_getElem? (i := 117) rfl)) rfl
theorem wm_2278 : (.sameMethod "java/lang/AbstractStringBuilder" "java/lang/AbstractStringBuilder" "append" "(C)Ljava/lang/AbstractStringBuilder;" : Cond) ∈ wAll := wg (wt_10 _ (List.mem_of_getElem? (i := 118) rfl)) rfl
theorem wp_0 : (.selects RX7 yX7_readToken yX7_readToken : Cond) ∈ wAll := wg (List.mem_append_left _ (List.mem_of_getElem? (i := 0) rfl)) rfl
theorem wp_1 : (.selects RX7 yX7_wordKind yX7_wordKind : Cond) ∈ wAll := wg (List.mem_append_left _ (List.mem_of_getElem? (i := 1) rfl)) rfl
theorem wp_2 : (.selects RX7 yX7_isWord yX7_isWord : Cond) ∈ wAll := wg (List.mem_append_left _ (List.mem_of_getElem? (i := 2) rfl)) rfl
theorem wp_3 : (.selects RX7 yX7_numberOf yX7_numberOf : Cond) ∈ wAll := wg (List.mem_append_left _ (List.mem_of_getElem? (i := 3) rfl)) rfl
theorem wp_4 : (.selects RX4 yX4_readHead yX4_readHead : Cond) ∈ wAll := wg (List.mem_append_left _ (List.mem_of_getElem? (i := 4) rfl)) rfl
theorem wp_5 : (.selects RX4 yX4_fail yX4_fail : Cond) ∈ wAll := wg (List.mem_append_left _ (List.mem_of_getElem? (i := 5) rfl)) rfl
theorem wp_6 : (.selects RX4 yX4_readNumber yX4_readNumber : Cond) ∈ wAll := wg (List.mem_append_left _ (List.mem_of_getElem? (i := 6) rfl)) rfl
theorem wp_7 : (.selects RX4 yX4_readCommand yX4_readCommand : Cond) ∈ wAll := wg (List.mem_append_left _ (List.mem_of_getElem? (i := 7) rfl)) rfl
theorem wp_8 : (.selects RX4 yX4_isBeyondLimit yX4_isBeyondLimit : Cond) ∈ wAll := wg (List.mem_append_left _ (List.mem_of_getElem? (i := 8) rfl)) rfl
theorem wp_9 : (.selects RX4 yX4_readNumbers yX4_readNumbers : Cond) ∈ wAll := wg (List.mem_append_left _ (List.mem_of_getElem? (i := 9) rfl)) rfl
theorem wp_10 : (.selects RX4 yX4_readExtras yX4_readExtras : Cond) ∈ wAll := wg (List.mem_append_left _ (List.mem_of_getElem? (i := 10) rfl)) rfl
theorem wp_11 : (.selects RX4 yX4_takeExtra yX4_takeExtra : Cond) ∈ wAll := wg (List.mem_append_left _ (List.mem_of_getElem? (i := 11) rfl)) rfl
theorem wp_12 : (.selects RX4 yX4_execute yX4_execute : Cond) ∈ wAll := wg (List.mem_append_left _ (List.mem_of_getElem? (i := 12) rfl)) rfl
theorem wp_13 : (.selects RX6 yX6_flourCostOf yX6_flourCostOf : Cond) ∈ wAll := wg (List.mem_append_left _ (List.mem_of_getElem? (i := 13) rfl)) rfl
theorem wp_14 : (.selects RX6 yX6_useOven yX6_useOven : Cond) ∈ wAll := wg (List.mem_append_left _ (List.mem_of_getElem? (i := 14) rfl)) rfl
theorem wp_15 : (.selects RX6 yX6_useFlour yX6_useFlour : Cond) ∈ wAll := wg (List.mem_append_left _ (List.mem_of_getElem? (i := 15) rfl)) rfl
theorem wp_16 : (.selects RX8 yX8_appendBytes yX8_appendBytes : Cond) ∈ wAll := wg (List.mem_append_left _ (List.mem_of_getElem? (i := 16) rfl)) rfl
theorem wp_17 : (.selects RX8 yX8_takeDraft yX8_takeDraft : Cond) ∈ wAll := wg (List.mem_append_left _ (List.mem_of_getElem? (i := 17) rfl)) rfl
theorem wp_18 : (.selects RX8 yX8_requireFlour yX8_requireFlour : Cond) ∈ wAll := wg (List.mem_append_left _ (List.mem_of_getElem? (i := 18) rfl)) rfl
theorem wp_19 : (.selects "java/lang/Throwable" ⟨"java/lang/Throwable", "fillInStackTrace", "(I)Ljava/lang/Throwable;"⟩ ⟨"java/lang/Throwable", "fillInStackTrace", "(I)Ljava/lang/Throwable;"⟩ : Cond) ∈ wAll := wg (List.mem_append_left _ (List.mem_of_getElem? (i := 19) rfl)) rfl
theorem wp_20 : (.selects RX8 yX8_requireLot yX8_requireLot : Cond) ∈ wAll := wg (List.mem_append_left _ (List.mem_of_getElem? (i := 20) rfl)) rfl
theorem wp_21 : (.selects RX8 yX8_requireBread yX8_requireBread : Cond) ∈ wAll := wg (List.mem_append_left _ (List.mem_of_getElem? (i := 21) rfl)) rfl
theorem wp_22 : (.selects RX8 yX8_requireBatch yX8_requireBatch : Cond) ∈ wAll := wg (List.mem_append_left _ (List.mem_of_getElem? (i := 22) rfl)) rfl
theorem wp_23 : (.selects RX0 yX0_placeOfKind yX0_placeOfKind : Cond) ∈ wAll := wg (List.mem_append_left _ (List.mem_of_getElem? (i := 23) rfl)) rfl
theorem wp_24 : (.selects RX6 yX6_plainOvenPrice yX6_plainOvenPrice : Cond) ∈ wAll := wg (List.mem_append_left _ (List.mem_of_getElem? (i := 24) rfl)) rfl
theorem wp_25 : (.selects RX8 yX8_writeGap yX8_writeGap : Cond) ∈ wAll := wg (List.mem_append_left _ (List.mem_of_getElem? (i := 25) rfl)) rfl
theorem wp_26 : (.selects RX9 yX9_startTrial yX9_startTrial : Cond) ∈ wAll := wg (List.mem_append_left _ (List.mem_of_getElem? (i := 26) rfl)) rfl
theorem wp_27 : (.selects RX9 yX9_startText yX9_startText : Cond) ∈ wAll := wg (List.mem_append_left _ (List.mem_of_getElem? (i := 27) rfl)) rfl
theorem wp_28 : (.selects RX9 yX9_next yX9_next : Cond) ∈ wAll := wg (List.mem_append_left _ (List.mem_of_getElem? (i := 28) rfl)) rfl
theorem wp_29 : (.selects RX9 yX9_setupText yX9_setupText : Cond) ∈ wAll := wg (List.mem_append_left _ (List.mem_of_getElem? (i := 29) rfl)) rfl
theorem wp_30 : (.selects RX9 yX9_expects yX9_expects : Cond) ∈ wAll := wg (List.mem_append_left _ (List.mem_of_getElem? (i := 30) rfl)) rfl
theorem wp_31 : (.selects RX9 yX9_isWord yX9_isWord : Cond) ∈ wAll := wg (List.mem_append_left _ (List.mem_of_getElem? (i := 31) rfl)) rfl
theorem wp_32 : (.selects RX9 yX9_wrong yX9_wrong : Cond) ∈ wAll := wg (List.mem_append_left _ (List.mem_of_getElem? (i := 32) rfl)) rfl
theorem wp_33 : (.selects RX9 yX9_into yX9_into : Cond) ∈ wAll := wg (List.mem_append_left _ (List.mem_of_getElem? (i := 33) rfl)) rfl
theorem wp_34 : (.selects RX9 yX9_numberIn yX9_numberIn : Cond) ∈ wAll := wg (List.mem_append_left _ (List.mem_of_getElem? (i := 34) rfl)) rfl
theorem wp_35 : (.selects RX9 yX9_semicolon yX9_semicolon : Cond) ∈ wAll := wg (List.mem_append_left _ (List.mem_of_getElem? (i := 35) rfl)) rfl
theorem wp_36 : (.selects RX9 yX9_isEnd yX9_isEnd : Cond) ∈ wAll := wg (List.mem_append_left _ (List.mem_of_getElem? (i := 36) rfl)) rfl
theorem wp_37 : (.selects RX9 yX9_commandsText yX9_commandsText : Cond) ∈ wAll := wg (List.mem_append_left _ (List.mem_of_getElem? (i := 37) rfl)) rfl
theorem wp_38 : (.selects RX9 yX9_commandHere yX9_commandHere : Cond) ∈ wAll := wg (List.mem_append_left _ (List.mem_of_getElem? (i := 38) rfl)) rfl
theorem wp_39 : (.selects RX9 yX9_commandText yX9_commandText : Cond) ∈ wAll := wg (List.mem_append_left _ (List.mem_of_getElem? (i := 39) rfl)) rfl
theorem wp_40 : (.selects RX9 yX9_argumentsText yX9_argumentsText : Cond) ∈ wAll := wg (List.mem_append_left _ (List.mem_of_getElem? (i := 40) rfl)) rfl
theorem wp_41 : (.selects RX9 yX9_recipeInto yX9_recipeInto : Cond) ∈ wAll := wg (List.mem_append_left _ (List.mem_of_getElem? (i := 41) rfl)) rfl
theorem wp_42 : (.selects RX9 yX9_isRecipe yX9_isRecipe : Cond) ∈ wAll := wg (List.mem_append_left _ (List.mem_of_getElem? (i := 42) rfl)) rfl
theorem wp_43 : (.selects RX9 yX9_bakeText yX9_bakeText : Cond) ∈ wAll := wg (List.mem_append_left _ (List.mem_of_getElem? (i := 43) rfl)) rfl
theorem wp_44 : (.selects RX9 yX9_breadInto yX9_breadInto : Cond) ∈ wAll := wg (List.mem_append_left _ (List.mem_of_getElem? (i := 44) rfl)) rfl
theorem wp_45 : (.selects RX9 yX9_extraText yX9_extraText : Cond) ∈ wAll := wg (List.mem_append_left _ (List.mem_of_getElem? (i := 45) rfl)) rfl
theorem wp_46 : (.selects RX9 yX9_isPossible yX9_isPossible : Cond) ∈ wAll := wg (List.mem_append_left _ (List.mem_of_getElem? (i := 46) rfl)) rfl
theorem wp_47 : (.selects RX9 yX9_canBuy yX9_canBuy : Cond) ∈ wAll := wg (List.mem_append_left _ (List.mem_of_getElem? (i := 47) rfl)) rfl
theorem wp_48 : (.selects RX9 yX9_flour yX9_flour : Cond) ∈ wAll := wg (List.mem_append_left _ (List.mem_of_getElem? (i := 48) rfl)) rfl
theorem wp_49 : (.selects RX9 yX9_obstacle yX9_obstacle : Cond) ∈ wAll := wg (List.mem_append_left _ (List.mem_of_getElem? (i := 49) rfl)) rfl
theorem wp_50 : (.selects RX9 yX9_mainFlour yX9_mainFlour : Cond) ∈ wAll := wg (List.mem_append_left _ (List.mem_of_getElem? (i := 50) rfl)) rfl
theorem wp_51 : (.selects RX9 yX9_amount yX9_amount : Cond) ∈ wAll := wg (List.mem_append_left _ (List.mem_of_getElem? (i := 51) rfl)) rfl
theorem wp_52 : (.selects RX9 yX9_bread yX9_bread : Cond) ∈ wAll := wg (List.mem_append_left _ (List.mem_of_getElem? (i := 52) rfl)) rfl
theorem wp_53 : (.selects RX9 yX9_used yX9_used : Cond) ∈ wAll := wg (List.mem_append_left _ (List.mem_of_getElem? (i := 53) rfl)) rfl
theorem wp_54 : (.selects RX9 yX9_units yX9_units : Cond) ∈ wAll := wg (List.mem_append_left _ (List.mem_of_getElem? (i := 54) rfl)) rfl
theorem wp_55 : (.selects RX9 yX9_lot yX9_lot : Cond) ∈ wAll := wg (List.mem_append_left _ (List.mem_of_getElem? (i := 55) rfl)) rfl
theorem wp_56 : (.selects RX9 yX9_does yX9_does : Cond) ∈ wAll := wg (List.mem_append_left _ (List.mem_of_getElem? (i := 56) rfl)) rfl
theorem wp_57 : (.selects RX9 yX9_doFlour yX9_doFlour : Cond) ∈ wAll := wg (List.mem_append_left _ (List.mem_of_getElem? (i := 57) rfl)) rfl
theorem wp_58 : (.selects RX9 yX9_addToFlour yX9_addToFlour : Cond) ∈ wAll := wg (List.mem_append_left _ (List.mem_of_getElem? (i := 58) rfl)) rfl
theorem wp_59 : (.selects RX9 yX9_doBread yX9_doBread : Cond) ∈ wAll := wg (List.mem_append_left _ (List.mem_of_getElem? (i := 59) rfl)) rfl
theorem wp_60 : (.selects RX9 yX9_doBuy yX9_doBuy : Cond) ∈ wAll := wg (List.mem_append_left _ (List.mem_of_getElem? (i := 60) rfl)) rfl
theorem wp_61 : (.selects RX9 yX9_doRate yX9_doRate : Cond) ∈ wAll := wg (List.mem_append_left _ (List.mem_of_getElem? (i := 61) rfl)) rfl
theorem wp_62 : (.selects RX9 yX9_doBake yX9_doBake : Cond) ∈ wAll := wg (List.mem_append_left _ (List.mem_of_getElem? (i := 62) rfl)) rfl
theorem wp_63 : (.selects RX9 yX9_putBatch yX9_putBatch : Cond) ∈ wAll := wg (List.mem_append_left _ (List.mem_of_getElem? (i := 63) rfl)) rfl
theorem wp_64 : (.selects RX9 yX9_useFlour yX9_useFlour : Cond) ∈ wAll := wg (List.mem_append_left _ (List.mem_of_getElem? (i := 64) rfl)) rfl
theorem wp_65 : (.selects RX9 yX9_takeUnit yX9_takeUnit : Cond) ∈ wAll := wg (List.mem_append_left _ (List.mem_of_getElem? (i := 65) rfl)) rfl
theorem wp_66 : (.selects RX9 yX9_batch yX9_batch : Cond) ∈ wAll := wg (List.mem_append_left _ (List.mem_of_getElem? (i := 66) rfl)) rfl
theorem wp_67 : (.selects RX9 yX9_firstOven yX9_firstOven : Cond) ∈ wAll := wg (List.mem_append_left _ (List.mem_of_getElem? (i := 67) rfl)) rfl
theorem wp_68 : (.selects RX9 yX9_costOfMinutes yX9_costOfMinutes : Cond) ∈ wAll := wg (List.mem_append_left _ (List.mem_of_getElem? (i := 68) rfl)) rfl
theorem wp_69 : (.selects RX9 yX9_rate yX9_rate : Cond) ∈ wAll := wg (List.mem_append_left _ (List.mem_of_getElem? (i := 69) rfl)) rfl
theorem wp_70 : (.selects RX9 yX9_standard yX9_standard : Cond) ∈ wAll := wg (List.mem_append_left _ (List.mem_of_getElem? (i := 70) rfl)) rfl
theorem wp_71 : (.selects RX9 yX9_doSell yX9_doSell : Cond) ∈ wAll := wg (List.mem_append_left _ (List.mem_of_getElem? (i := 71) rfl)) rfl
theorem wp_72 : (.selects RX9 yX9_doWait yX9_doWait : Cond) ∈ wAll := wg (List.mem_append_left _ (List.mem_of_getElem? (i := 72) rfl)) rfl
theorem wp_73 : (.selects RX9 yX9_putBack yX9_putBack : Cond) ∈ wAll := wg (List.mem_append_left _ (List.mem_of_getElem? (i := 73) rfl)) rfl
theorem wp_74 : (.selects RX9 yX9_pushAside yX9_pushAside : Cond) ∈ wAll := wg (List.mem_append_left _ (List.mem_of_getElem? (i := 74) rfl)) rfl
theorem wp_75 : (.selects RX9 yX9_plain yX9_plain : Cond) ∈ wAll := wg (List.mem_append_left _ (List.mem_of_getElem? (i := 75) rfl)) rfl
theorem wp_76 : (.selects RX9 yX9_isFlour yX9_isFlour : Cond) ∈ wAll := wg (List.mem_append_left _ (List.mem_of_getElem? (i := 76) rfl)) rfl
theorem wp_77 : (.selects RX9 yX9_fails yX9_fails : Cond) ∈ wAll := wg (List.mem_append_left _ (List.mem_of_getElem? (i := 77) rfl)) rfl
theorem wp_78 : (.selects RX9 yX9_askedLot yX9_askedLot : Cond) ∈ wAll := wg (List.mem_append_left _ (List.mem_of_getElem? (i := 78) rfl)) rfl
theorem wp_79 : (.selects RX9 yX9_isBread yX9_isBread : Cond) ∈ wAll := wg (List.mem_append_left _ (List.mem_of_getElem? (i := 79) rfl)) rfl
theorem wp_80 : (.selects RX9 yX9_isBatch yX9_isBatch : Cond) ∈ wAll := wg (List.mem_append_left _ (List.mem_of_getElem? (i := 80) rfl)) rfl
theorem wp_81 : (.selects RX9 yX9_good yX9_good : Cond) ∈ wAll := wg (List.mem_append_left _ (List.mem_of_getElem? (i := 81) rfl)) rfl
theorem wp_82 : (.selects RX9 yX9_loss yX9_loss : Cond) ∈ wAll := wg (List.mem_append_left _ (List.mem_of_getElem? (i := 82) rfl)) rfl
theorem wp_83 : (.selects RX9 yX9_kindsBefore yX9_kindsBefore : Cond) ∈ wAll := wg (List.mem_append_left _ (List.mem_of_getElem? (i := 83) rfl)) rfl
theorem wp_84 : (.selects RX9 yX9_sumOf yX9_sumOf : Cond) ∈ wAll := wg (List.mem_append_left _ (List.mem_of_getElem? (i := 84) rfl)) rfl
theorem wp_85 : (.selects RX9 yX9_allGaps yX9_allGaps : Cond) ∈ wAll := wg (List.mem_append_left _ (List.mem_of_getElem? (i := 85) rfl)) rfl
theorem wp_86 : (.selects RX9 yX9_isPlan yX9_isPlan : Cond) ∈ wAll := wg (List.mem_append_left _ (List.mem_of_getElem? (i := 86) rfl)) rfl
theorem wp_87 : (.selects RX9 yX9_worthOfFlour yX9_worthOfFlour : Cond) ∈ wAll := wg (List.mem_append_left _ (List.mem_of_getElem? (i := 87) rfl)) rfl
theorem wp_88 : (.selects RX9 yX9_worthOfLoaves yX9_worthOfLoaves : Cond) ∈ wAll := wg (List.mem_append_left _ (List.mem_of_getElem? (i := 88) rfl)) rfl
theorem wp_89 : (.selects RX9 yX9_gapsOf yX9_gapsOf : Cond) ∈ wAll := wg (List.mem_append_left _ (List.mem_of_getElem? (i := 89) rfl)) rfl
theorem wp_90 : (.selects RX9 yX9_record yX9_record : Cond) ∈ wAll := wg (List.mem_append_left _ (List.mem_of_getElem? (i := 90) rfl)) rfl
theorem wp_91 : (.selects RX9 yX9_write yX9_write : Cond) ∈ wAll := wg (List.mem_append_left _ (List.mem_of_getElem? (i := 91) rfl)) rfl
theorem wp_92 : (.selects RX9 yX9_writeNumber yX9_writeNumber : Cond) ∈ wAll := wg (List.mem_append_left _ (List.mem_of_getElem? (i := 92) rfl)) rfl
theorem uw_J0 : ∀ w ∈ u_ws RJ0 TJ0 4, w ∈ wAll := by
  intro w hw
  obtain ⟨k, hk, rfl⟩ := List.mem_map.mp hw
  have hk := List.mem_range.mp hk
  match k, hk with
  | 0, _ => exact wm_1550
  | 1, _ => exact wm_1552
  | 2, _ => exact wm_1554
  | 3, _ => exact wm_1556
  | n + 4, h => exact absurd h (by omega)
theorem kl_J0 : vwCl[0]? = some (RJ0, TJ0, 4) ∧ (∀ w ∈ u_ws RJ0 TJ0 4, w ∈ wAll) ∧ (∀ k, k < 4 → parseFieldDescriptor (TJ0 k).2.2.1 = some (tyJ0 k)) ∧ (∀ a, a < 4 → ∀ b, b < 4 → a ≠ b → (TJ0 a).2.1 ≠ (TJ0 b).2.1) := ⟨rfl, uw_J0, tyJ0_ok, nmJ0⟩
theorem uw_J4 : ∀ w ∈ u_ws RJ4 TJ4 4, w ∈ wAll := by
  intro w hw
  obtain ⟨k, hk, rfl⟩ := List.mem_map.mp hw
  have hk := List.mem_range.mp hk
  match k, hk with
  | 0, _ => exact wm_374
  | 1, _ => exact wm_376
  | 2, _ => exact wm_378
  | 3, _ => exact wm_380
  | n + 4, h => exact absurd h (by omega)
theorem kl_J4 : vwCl[1]? = some (RJ4, TJ4, 4) ∧ (∀ w ∈ u_ws RJ4 TJ4 4, w ∈ wAll) ∧ (∀ k, k < 4 → parseFieldDescriptor (TJ4 k).2.2.1 = some (tyJ4 k)) ∧ (∀ a, a < 4 → ∀ b, b < 4 → a ≠ b → (TJ4 a).2.1 ≠ (TJ4 b).2.1) := ⟨rfl, uw_J4, tyJ4_ok, nmJ4⟩
theorem uw_X0 : ∀ w ∈ u_ws RX0 TX0 10, w ∈ wAll := by
  intro w hw
  obtain ⟨k, hk, rfl⟩ := List.mem_map.mp hw
  have hk := List.mem_range.mp hk
  match k, hk with
  | 0, _ => exact wm_199
  | 1, _ => exact wm_201
  | 2, _ => exact wm_203
  | 3, _ => exact wm_205
  | 4, _ => exact wm_207
  | 5, _ => exact wm_209
  | 6, _ => exact wm_211
  | 7, _ => exact wm_213
  | 8, _ => exact wm_215
  | 9, _ => exact wm_217
  | n + 10, h => exact absurd h (by omega)
theorem kl_X0 : vwCl[4]? = some (RX0, TX0, 10) ∧ (∀ w ∈ u_ws RX0 TX0 10, w ∈ wAll) ∧ (∀ k, k < 10 → parseFieldDescriptor (TX0 k).2.2.1 = some (tyX0 k)) ∧ (∀ a, a < 10 → ∀ b, b < 10 → a ≠ b → (TX0 a).2.1 ≠ (TX0 b).2.1) := ⟨rfl, uw_X0, tyX0_ok, nmX0⟩
theorem uw_X1 : ∀ w ∈ u_ws RX1 TX1 8, w ∈ wAll := by
  intro w hw
  obtain ⟨k, hk, rfl⟩ := List.mem_map.mp hw
  have hk := List.mem_range.mp hk
  match k, hk with
  | 0, _ => exact wm_119
  | 1, _ => exact wm_121
  | 2, _ => exact wm_123
  | 3, _ => exact wm_125
  | 4, _ => exact wm_127
  | 5, _ => exact wm_129
  | 6, _ => exact wm_131
  | 7, _ => exact wm_133
  | n + 8, h => exact absurd h (by omega)
theorem kl_X1 : vwCl[5]? = some (RX1, TX1, 8) ∧ (∀ w ∈ u_ws RX1 TX1 8, w ∈ wAll) ∧ (∀ k, k < 8 → parseFieldDescriptor (TX1 k).2.2.1 = some (tyX1 k)) ∧ (∀ a, a < 8 → ∀ b, b < 8 → a ≠ b → (TX1 a).2.1 ≠ (TX1 b).2.1) := ⟨rfl, uw_X1, tyX1_ok, nmX1⟩
theorem uw_X2 : ∀ w ∈ u_ws RX2 TX2 7, w ∈ wAll := by
  intro w hw
  obtain ⟨k, hk, rfl⟩ := List.mem_map.mp hw
  have hk := List.mem_range.mp hk
  match k, hk with
  | 0, _ => exact wm_74
  | 1, _ => exact wm_76
  | 2, _ => exact wm_78
  | 3, _ => exact wm_80
  | 4, _ => exact wm_82
  | 5, _ => exact wm_84
  | 6, _ => exact wm_86
  | n + 7, h => exact absurd h (by omega)
theorem kl_X2 : vwCl[6]? = some (RX2, TX2, 7) ∧ (∀ w ∈ u_ws RX2 TX2 7, w ∈ wAll) ∧ (∀ k, k < 7 → parseFieldDescriptor (TX2 k).2.2.1 = some (tyX2 k)) ∧ (∀ a, a < 7 → ∀ b, b < 7 → a ≠ b → (TX2 a).2.1 ≠ (TX2 b).2.1) := ⟨rfl, uw_X2, tyX2_ok, nmX2⟩
theorem uw_X3 : ∀ w ∈ u_ws RX3 TX3 3, w ∈ wAll := by
  intro w hw
  obtain ⟨k, hk, rfl⟩ := List.mem_map.mp hw
  have hk := List.mem_range.mp hk
  match k, hk with
  | 0, _ => exact wm_276
  | 1, _ => exact wm_278
  | 2, _ => exact wm_280
  | n + 3, h => exact absurd h (by omega)
theorem kl_X3 : vwCl[7]? = some (RX3, TX3, 3) ∧ (∀ w ∈ u_ws RX3 TX3 3, w ∈ wAll) ∧ (∀ k, k < 3 → parseFieldDescriptor (TX3 k).2.2.1 = some (tyX3 k)) ∧ (∀ a, a < 3 → ∀ b, b < 3 → a ≠ b → (TX3 a).2.1 ≠ (TX3 b).2.1) := ⟨rfl, uw_X3, tyX3_ok, nmX3⟩
theorem uw_X4 : ∀ w ∈ u_ws RX4 TX4 9, w ∈ wAll := by
  intro w hw
  obtain ⟨k, hk, rfl⟩ := List.mem_map.mp hw
  have hk := List.mem_range.mp hk
  match k, hk with
  | 0, _ => exact wm_332
  | 1, _ => exact wm_334
  | 2, _ => exact wm_336
  | 3, _ => exact wm_338
  | 4, _ => exact wm_340
  | 5, _ => exact wm_342
  | 6, _ => exact wm_344
  | 7, _ => exact wm_346
  | 8, _ => exact wm_348
  | n + 9, h => exact absurd h (by omega)
theorem kl_X4 : vwCl[8]? = some (RX4, TX4, 9) ∧ (∀ w ∈ u_ws RX4 TX4 9, w ∈ wAll) ∧ (∀ k, k < 9 → parseFieldDescriptor (TX4 k).2.2.1 = some (tyX4 k)) ∧ (∀ a, a < 9 → ∀ b, b < 9 → a ≠ b → (TX4 a).2.1 ≠ (TX4 b).2.1) := ⟨rfl, uw_X4, tyX4_ok, nmX4⟩
theorem uw_X5 : ∀ w ∈ u_ws RX5 TX5 4, w ∈ wAll := by
  intro w hw
  obtain ⟨k, hk, rfl⟩ := List.mem_map.mp hw
  have hk := List.mem_range.mp hk
  match k, hk with
  | 0, _ => exact wm_153
  | 1, _ => exact wm_155
  | 2, _ => exact wm_157
  | 3, _ => exact wm_159
  | n + 4, h => exact absurd h (by omega)
theorem kl_X5 : vwCl[9]? = some (RX5, TX5, 4) ∧ (∀ w ∈ u_ws RX5 TX5 4, w ∈ wAll) ∧ (∀ k, k < 4 → parseFieldDescriptor (TX5 k).2.2.1 = some (tyX5 k)) ∧ (∀ a, a < 4 → ∀ b, b < 4 → a ≠ b → (TX5 a).2.1 ≠ (TX5 b).2.1) := ⟨rfl, uw_X5, tyX5_ok, nmX5⟩
theorem uw_X6 : ∀ w ∈ u_ws RX6 TX6 10, w ∈ wAll := by
  intro w hw
  obtain ⟨k, hk, rfl⟩ := List.mem_map.mp hw
  have hk := List.mem_range.mp hk
  match k, hk with
  | 0, _ => exact wm_242
  | 1, _ => exact wm_244
  | 2, _ => exact wm_246
  | 3, _ => exact wm_248
  | 4, _ => exact wm_250
  | 5, _ => exact wm_252
  | 6, _ => exact wm_254
  | 7, _ => exact wm_256
  | 8, _ => exact wm_258
  | 9, _ => exact wm_260
  | n + 10, h => exact absurd h (by omega)
theorem kl_X6 : vwCl[10]? = some (RX6, TX6, 10) ∧ (∀ w ∈ u_ws RX6 TX6 10, w ∈ wAll) ∧ (∀ k, k < 10 → parseFieldDescriptor (TX6 k).2.2.1 = some (tyX6 k)) ∧ (∀ a, a < 10 → ∀ b, b < 10 → a ≠ b → (TX6 a).2.1 ≠ (TX6 b).2.1) := ⟨rfl, uw_X6, tyX6_ok, nmX6⟩
theorem uw_X7 : ∀ w ∈ u_ws RX7 TX7 7, w ∈ wAll := by
  intro w hw
  obtain ⟨k, hk, rfl⟩ := List.mem_map.mp hw
  have hk := List.mem_range.mp hk
  match k, hk with
  | 0, _ => exact wm_303
  | 1, _ => exact wm_305
  | 2, _ => exact wm_307
  | 3, _ => exact wm_309
  | 4, _ => exact wm_311
  | 5, _ => exact wm_313
  | 6, _ => exact wm_315
  | n + 7, h => exact absurd h (by omega)
theorem kl_X7 : vwCl[11]? = some (RX7, TX7, 7) ∧ (∀ w ∈ u_ws RX7 TX7 7, w ∈ wAll) ∧ (∀ k, k < 7 → parseFieldDescriptor (TX7 k).2.2.1 = some (tyX7 k)) ∧ (∀ a, a < 7 → ∀ b, b < 7 → a ≠ b → (TX7 a).2.1 ≠ (TX7 b).2.1) := ⟨rfl, uw_X7, tyX7_ok, nmX7⟩
theorem uw_X8 : ∀ w ∈ u_ws RX8 TX8 7, w ∈ wAll := by
  intro w hw
  obtain ⟨k, hk, rfl⟩ := List.mem_map.mp hw
  have hk := List.mem_range.mp hk
  match k, hk with
  | 0, _ => exact wm_661
  | 1, _ => exact wm_663
  | 2, _ => exact wm_665
  | 3, _ => exact wm_667
  | 4, _ => exact wm_669
  | 5, _ => exact wm_671
  | 6, _ => exact wm_673
  | n + 7, h => exact absurd h (by omega)
theorem kl_X8 : vwCl[12]? = some (RX8, TX8, 7) ∧ (∀ w ∈ u_ws RX8 TX8 7, w ∈ wAll) ∧ (∀ k, k < 7 → parseFieldDescriptor (TX8 k).2.2.1 = some (tyX8 k)) ∧ (∀ a, a < 7 → ∀ b, b < 7 → a ≠ b → (TX8 a).2.1 ≠ (TX8 b).2.1) := ⟨rfl, uw_X8, tyX8_ok, nmX8⟩
theorem uw_X9 : ∀ w ∈ u_ws RX9 TX9 19, w ∈ wAll := by
  intro w hw
  obtain ⟨k, hk, rfl⟩ := List.mem_map.mp hw
  have hk := List.mem_range.mp hk
  match k, hk with
  | 0, _ => exact wm_1882
  | 1, _ => exact wm_1884
  | 2, _ => exact wm_1886
  | 3, _ => exact wm_1888
  | 4, _ => exact wm_1890
  | 5, _ => exact wm_1892
  | 6, _ => exact wm_1894
  | 7, _ => exact wm_1896
  | 8, _ => exact wm_1898
  | 9, _ => exact wm_1900
  | 10, _ => exact wm_1902
  | 11, _ => exact wm_1904
  | 12, _ => exact wm_1906
  | 13, _ => exact wm_1908
  | 14, _ => exact wm_1910
  | 15, _ => exact wm_1912
  | 16, _ => exact wm_1914
  | 17, _ => exact wm_1916
  | 18, _ => exact wm_1918
  | n + 19, h => exact absurd h (by omega)
theorem kl_X9 : vwCl[13]? = some (RX9, TX9, 19) ∧ (∀ w ∈ u_ws RX9 TX9 19, w ∈ wAll) ∧ (∀ k, k < 19 → parseFieldDescriptor (TX9 k).2.2.1 = some (tyX9 k)) ∧ (∀ a, a < 19 → ∀ b, b < 19 → a ≠ b → (TX9 a).2.1 ≠ (TX9 b).2.1) := ⟨rfl, uw_X9, tyX9_ok, nmX9⟩
def sWd : List (String × Nat × String) := [("PennyBakery", 48, "bakery 2000 2 2; flour 10; flour 25; bread 150 3 4; bread 240 5 23; buy 0 40 11; buy 0 30 9; buy 1 20 28; rate 1 4; bake 0 6 burnt 1 more 2; wait 50; bake 1 4 late 3; sell 0 3 140;"), ("PennyBakery$Text", 78, "bakery"), ("PennyBakery$Text", 80, "flour"), ("PennyBakery$Text", 82, "bread"), ("PennyBakery$Text", 84, "buy"), ("PennyBakery$Text", 86, "rate"), ("PennyBakery$Text", 88, "bake"), ("PennyBakery$Text", 90, "sell"), ("PennyBakery$Text", 92, "wait"), ("PennyBakery$Text", 94, "burnt"), ("PennyBakery$Text", 96, "more"), ("PennyBakery$Text", 98, "less"), ("PennyBakery$Text", 100, "late"), ("PennyBakery$Text", 102, "early"), ("PennyBakery$Text", 104, ""), ("PennyBakery", 349, "there is nothing with this index"), ("PennyBakery", 354, "a value is out of its range"), ("PennyBakery", 359, "the bakery does not allow this now"), ("PennyBakery", 334, "no state is saved in this slot"), ("java/lang/StringIndexOutOfBoundsException", 13, "String index out of range: "), ("java/util/Arrays", 337, " > "), ("java/util/Arrays", 48, "fromIndex("), ("java/util/Arrays", 57, ") > toIndex("), ("java/util/Arrays", 59, ")"), ("java/lang/ArrayIndexOutOfBoundsException", 13, "Array index out of range: "), ("PennyBakery", 365, "purtb"), ("PennyBakeryModel", 42, "bakery 2000 2 2; flour 10; flour 25; bread 150 3 4; bread 240 5 23; buy 0 40 11; buy 0 30 9; buy 1 20 28; rate 1 4; bake 0 6 burnt 1 more 2; wait 50; bake 1 4 late 3; sell 0 3 140;"), ("PennyBakeryModel", 181, "bakery"), ("PennyBakeryModel", 196, "flour"), ("PennyBakeryModel", 197, "bread"), ("PennyBakeryModel", 198, "buy"), ("PennyBakeryModel", 200, "rate"), ("PennyBakeryModel", 201, "bake"), ("PennyBakeryModel", 203, "sell"), ("PennyBakeryModel", 205, "wait"), ("PennyBakeryModel", 217, "burnt"), ("PennyBakeryModel", 219, "more"), ("PennyBakeryModel", 221, "less"), ("PennyBakeryModel", 223, "late"), ("PennyBakeryModel", 225, "early")]
def sTx : List (List Nat) := [[98, 97, 107, 101, 114, 121, 32, 50, 48, 48, 48, 32, 50, 32, 50, 59, 32, 102, 108, 111, 117, 114, 32, 49, 48, 59, 32, 102, 108, 111, 117, 114, 32, 50, 53, 59, 32, 98, 114, 101, 97, 100, 32, 49, 53, 48, 32, 51, 32, 52, 59, 32, 98, 114, 101, 97, 100, 32, 50, 52, 48, 32, 53, 32, 50, 51, 59, 32, 98, 117, 121, 32, 48, 32, 52, 48, 32, 49, 49, 59, 32, 98, 117, 121, 32, 48, 32, 51, 48, 32, 57, 59, 32, 98, 117, 121, 32, 49, 32, 50, 48, 32, 50, 56, 59, 32, 114, 97, 116, 101, 32, 49, 32, 52, 59, 32, 98, 97, 107, 101, 32, 48, 32, 54, 32, 98, 117, 114, 110, 116, 32, 49, 32, 109, 111, 114, 101, 32, 50, 59, 32, 119, 97, 105, 116, 32, 53, 48, 59, 32, 98, 97, 107, 101, 32, 49, 32, 52, 32, 108, 97, 116, 101, 32, 51, 59, 32, 115, 101, 108, 108, 32, 48, 32, 51, 32, 49, 52, 48, 59], [98, 97, 107, 101, 114, 121], [102, 108, 111, 117, 114], [98, 114, 101, 97, 100], [98, 117, 121], [114, 97, 116, 101], [98, 97, 107, 101], [115, 101, 108, 108], [119, 97, 105, 116], [98, 117, 114, 110, 116], [109, 111, 114, 101], [108, 101, 115, 115], [108, 97, 116, 101], [101, 97, 114, 108, 121], [], [116, 104, 101, 114, 101, 32, 105, 115, 32, 110, 111, 116, 104, 105, 110, 103, 32, 119, 105, 116, 104, 32, 116, 104, 105, 115, 32, 105, 110, 100, 101, 120], [97, 32, 118, 97, 108, 117, 101, 32, 105, 115, 32, 111, 117, 116, 32, 111, 102, 32, 105, 116, 115, 32, 114, 97, 110, 103, 101], [116, 104, 101, 32, 98, 97, 107, 101, 114, 121, 32, 100, 111, 101, 115, 32, 110, 111, 116, 32, 97, 108, 108, 111, 119, 32, 116, 104, 105, 115, 32, 110, 111, 119], [110, 111, 32, 115, 116, 97, 116, 101, 32, 105, 115, 32, 115, 97, 118, 101, 100, 32, 105, 110, 32, 116, 104, 105, 115, 32, 115, 108, 111, 116], [83, 116, 114, 105, 110, 103, 32, 105, 110, 100, 101, 120, 32, 111, 117, 116, 32, 111, 102, 32, 114, 97, 110, 103, 101, 58, 32], [32, 62, 32], [102, 114, 111, 109, 73, 110, 100, 101, 120, 40], [41, 32, 62, 32, 116, 111, 73, 110, 100, 101, 120, 40], [41], [65, 114, 114, 97, 121, 32, 105, 110, 100, 101, 120, 32, 111, 117, 116, 32, 111, 102, 32, 114, 97, 110, 103, 101, 58, 32], [112, 117, 114, 116, 98], [98, 97, 107, 101, 114, 121, 32, 50, 48, 48, 48, 32, 50, 32, 50, 59, 32, 102, 108, 111, 117, 114, 32, 49, 48, 59, 32, 102, 108, 111, 117, 114, 32, 50, 53, 59, 32, 98, 114, 101, 97, 100, 32, 49, 53, 48, 32, 51, 32, 52, 59, 32, 98, 114, 101, 97, 100, 32, 50, 52, 48, 32, 53, 32, 50, 51, 59, 32, 98, 117, 121, 32, 48, 32, 52, 48, 32, 49, 49, 59, 32, 98, 117, 121, 32, 48, 32, 51, 48, 32, 57, 59, 32, 98, 117, 121, 32, 49, 32, 50, 48, 32, 50, 56, 59, 32, 114, 97, 116, 101, 32, 49, 32, 52, 59, 32, 98, 97, 107, 101, 32, 48, 32, 54, 32, 98, 117, 114, 110, 116, 32, 49, 32, 109, 111, 114, 101, 32, 50, 59, 32, 119, 97, 105, 116, 32, 53, 48, 59, 32, 98, 97, 107, 101, 32, 49, 32, 52, 32, 108, 97, 116, 101, 32, 51, 59, 32, 115, 101, 108, 108, 32, 48, 32, 51, 32, 49, 52, 48, 59], [98, 97, 107, 101, 114, 121], [102, 108, 111, 117, 114], [98, 114, 101, 97, 100], [98, 117, 121], [114, 97, 116, 101], [98, 97, 107, 101], [115, 101, 108, 108], [119, 97, 105, 116], [98, 117, 114, 110, 116], [109, 111, 114, 101], [108, 101, 115, 115], [108, 97, 116, 101], [101, 97, 114, 108, 121]]
def bNest : List Cond := [.methodLinkNest RX8 9 yX6_init "PennyBakery", .methodLinkNest RX6 11 yX2_init "PennyBakery", .methodLinkNest RX6 20 yX1_init "PennyBakery", .methodLinkNest RX6 27 yX5_init "PennyBakery", .methodLinkNest RX6 34 yX0_init "PennyBakery", .methodLinkNest RX3 17 yX6_init "PennyBakery", .methodLinkNest RX8 36 yX4_init "PennyBakery", .methodLinkNest RX4 11 yX7_init "PennyBakery", .methodLinkNest RX2 40 yX8_sumOf "PennyBakery", .methodLinkNest RX2 36 yX8_copyRow "PennyBakery", .methodLinkNest RX1 39 yX8_copyRow "PennyBakery", .methodLinkNest RX5 25 yX8_copyRow "PennyBakery", .methodLinkNest RX0 45 yX8_copyRow "PennyBakery", .methodLinkNest RX0 49 yX8_sumOf "PennyBakery"]
def bFace : List Cond := [.castable "java/lang/IndexOutOfBoundsException" "java/lang/IndexOutOfBoundsException", .castable "java/lang/IllegalArgumentException" "java/lang/IllegalArgumentException", .castable "java/lang/IllegalStateException" "java/lang/IllegalStateException", .castable "java/util/NoSuchElementException" "java/util/NoSuchElementException", .declares ⟨"java/lang/RuntimeException", "<init>", "(Ljava/lang/String;)V"⟩, .declares ⟨"java/lang/Exception", "<init>", "(Ljava/lang/String;)V"⟩, .declares ⟨"java/lang/Throwable", "<init>", "(Ljava/lang/String;)V"⟩, .privateMethod yJ5_ensureCapacityInternal_d00df, .privateMethod yJ5_newCapacity_0f7a4]
def bNc : List (String × String) := [("java/lang/IndexOutOfBoundsException", "java/lang/IllegalArgumentException"), ("java/lang/IndexOutOfBoundsException", "java/lang/IllegalStateException"), ("java/lang/IndexOutOfBoundsException", "java/util/NoSuchElementException"), ("java/lang/IllegalArgumentException", "java/lang/IndexOutOfBoundsException"), ("java/lang/IllegalArgumentException", "java/lang/IllegalStateException"), ("java/lang/IllegalArgumentException", "java/util/NoSuchElementException"), ("java/lang/IllegalStateException", "java/lang/IndexOutOfBoundsException"), ("java/lang/IllegalStateException", "java/lang/IllegalArgumentException"), ("java/lang/IllegalStateException", "java/util/NoSuchElementException"), ("java/util/NoSuchElementException", "java/lang/IndexOutOfBoundsException"), ("java/util/NoSuchElementException", "java/lang/IllegalArgumentException"), ("java/util/NoSuchElementException", "java/lang/IllegalStateException")]
