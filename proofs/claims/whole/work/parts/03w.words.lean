theorem zT_of1 {w : Cond} (i : Nat) (h0 : tables_1_1[i]? = some w) (g : goodWord w = true) : w ∈ zT := by
  have h : w ∈ tables_1_1 := List.mem_of_getElem? h0
  have h2 : w ∈ tables_1 := List.mem_append_left _ h
  exact List.mem_filter.mpr ⟨List.mem_append_right _ h2, g⟩
theorem zT_of2 {w : Cond} (i : Nat) (h0 : tables_1_2[i]? = some w) (g : goodWord w = true) : w ∈ zT := by
  have h : w ∈ tables_1_2 := List.mem_of_getElem? h0
  have h2 : w ∈ tables_1 := List.mem_append_right _ (List.mem_append_left _ h)
  exact List.mem_filter.mpr ⟨List.mem_append_right _ h2, g⟩
theorem zT_of3 {w : Cond} (i : Nat) (h0 : tables_1_3[i]? = some w) (g : goodWord w = true) : w ∈ zT := by
  have h : w ∈ tables_1_3 := List.mem_of_getElem? h0
  have h2 : w ∈ tables_1 := List.mem_append_right _ (List.mem_append_right _ (List.mem_append_left _ h))
  exact List.mem_filter.mpr ⟨List.mem_append_right _ h2, g⟩
theorem zT_of4 {w : Cond} (i : Nat) (h0 : tables_1_4[i]? = some w) (g : goodWord w = true) : w ∈ zT := by
  have h : w ∈ tables_1_4 := List.mem_of_getElem? h0
  have h2 : w ∈ tables_1 := List.mem_append_right _ (List.mem_append_right _ (List.mem_append_right _ (List.mem_append_left _ h)))
  exact List.mem_filter.mpr ⟨List.mem_append_right _ h2, g⟩
theorem zT_of5 {w : Cond} (i : Nat) (h0 : tables_1_5[i]? = some w) (g : goodWord w = true) : w ∈ zT := by
  have h : w ∈ tables_1_5 := List.mem_of_getElem? h0
  have h2 : w ∈ tables_1 := List.mem_append_right _ (List.mem_append_right _ (List.mem_append_right _ (List.mem_append_right _ (List.mem_append_left _ h))))
  exact List.mem_filter.mpr ⟨List.mem_append_right _ h2, g⟩
theorem zT_of6 {w : Cond} (i : Nat) (h0 : tables_1_6[i]? = some w) (g : goodWord w = true) : w ∈ zT := by
  have h : w ∈ tables_1_6 := List.mem_of_getElem? h0
  have h2 : w ∈ tables_1 := List.mem_append_right _ (List.mem_append_right _ (List.mem_append_right _ (List.mem_append_right _ (List.mem_append_right _ (List.mem_append_left _ h)))))
  exact List.mem_filter.mpr ⟨List.mem_append_right _ h2, g⟩
theorem zT_of7 {w : Cond} (i : Nat) (h0 : tables_1_7[i]? = some w) (g : goodWord w = true) : w ∈ zT := by
  have h : w ∈ tables_1_7 := List.mem_of_getElem? h0
  have h2 : w ∈ tables_1 := List.mem_append_right _ (List.mem_append_right _ (List.mem_append_right _ (List.mem_append_right _ (List.mem_append_right _ (List.mem_append_right _ (List.mem_append_left _ h))))))
  exact List.mem_filter.mpr ⟨List.mem_append_right _ h2, g⟩
theorem zT_of8 {w : Cond} (i : Nat) (h0 : tables_1_8[i]? = some w) (g : goodWord w = true) : w ∈ zT := by
  have h : w ∈ tables_1_8 := List.mem_of_getElem? h0
  have h2 : w ∈ tables_1 := List.mem_append_right _ (List.mem_append_right _ (List.mem_append_right _ (List.mem_append_right _ (List.mem_append_right _ (List.mem_append_right _ (List.mem_append_right _ (h)))))))
  exact List.mem_filter.mpr ⟨List.mem_append_right _ h2, g⟩
theorem zw_0 : (Cond.initialized "ChequeredClothLaw") ∈ zT := zT_of1 0 rfl rfl
theorem zw_1 : (Cond.initialized "ChequeredCloth") ∈ zT := zT_of1 1 rfl rfl
theorem zw_2 : (Cond.initialized "ChequeredCloth$Counters") ∈ zT := zT_of1 2 rfl rfl
theorem zw_3 : (Cond.initialized "ChequeredCloth$Chest") ∈ zT := zT_of1 3 rfl rfl
theorem zw_4 : (Cond.initialized "ChequeredCloth$Matcher") ∈ zT := zT_of1 4 rfl rfl
theorem zw_5 : (Cond.initialized "java/util/Arrays") ∈ zT := zT_of1 5 rfl rfl
theorem zw_6 : (Cond.initialized "ChequeredCloth$Reader") ∈ zT := zT_of1 6 rfl rfl
theorem zw_7 : (Cond.initialized "ChequeredCloth$Acts") ∈ zT := zT_of1 7 rfl rfl
theorem zw_8 : (Cond.initialized "ChequeredCloth$Audit") ∈ zT := zT_of1 8 rfl rfl
theorem zw_9 : (Cond.initialized "ChequeredCloth$Judge") ∈ zT := zT_of1 9 rfl rfl
theorem zw_10 : (Cond.initialized "ChequeredCloth$Known") ∈ zT := zT_of1 10 rfl rfl
theorem zw_11 : (Cond.initialized "ChequeredCloth$Roll") ∈ zT := zT_of1 11 rfl rfl
theorem zw_12 : (Cond.initialized "ChequeredClothModel") ∈ zT := zT_of1 12 rfl rfl
theorem zw_13 : (Cond.initialized "java/lang/System") ∈ zT := zT_of1 13 rfl rfl
theorem zw_14 : (Cond.initialized "java/lang/Math") ∈ zT := zT_of1 14 rfl rfl
theorem zw_15 : (Cond.initialized "ChequeredCloth$Statement") ∈ zT := zT_of1 15 rfl rfl
theorem zw_16 : (Cond.initialized "java/lang/String") ∈ zT := zT_of1 16 rfl rfl
theorem zw_17 : (Cond.initialized "java/lang/StringLatin1") ∈ zT := zT_of1 17 rfl rfl
theorem zw_18 : (Cond.initialized "jdk/internal/util/Preconditions") ∈ zT := zT_of1 18 rfl rfl
theorem zw_19 : (Cond.initialized "java/lang/StringUTF16") ∈ zT := zT_of1 19 rfl rfl
theorem zw_20 : (Cond.initialized "ChequeredCloth$Writ") ∈ zT := zT_of1 20 rfl rfl
theorem zw_21 : (Cond.classLink "ChequeredClothLaw" (7 : Nat) "ChequeredCloth") ∈ zT := zT_of1 21 rfl rfl
theorem zw_22 : (Cond.instantiable "ChequeredCloth" (6 : Nat)) ∈ zT := zT_of1 22 rfl rfl
theorem zw_23 : (Cond.methodLink "ChequeredClothLaw" (9 : Nat) ({ cls := "ChequeredCloth", name := "<init>", desc := "()V" } : MethodName)) ∈ zT := zT_of1 23 rfl rfl
theorem zw_24 : (Cond.instanceMethod ({ cls := "ChequeredCloth", name := "<init>", desc := "()V" } : MethodName)) ∈ zT := zT_of1 24 rfl rfl
theorem zw_25 : (Cond.code ({ cls := "ChequeredCloth", name := "<init>", desc := "()V" } : MethodName) prog_1_method_1_code (1 : Nat) (Option.none : Option FieldType)) ∈ zT := zT_of1 25 rfl rfl
theorem zw_26 : (Cond.methodLink "ChequeredCloth" (1 : Nat) ({ cls := "java/lang/Object", name := "<init>", desc := "()V" } : MethodName)) ∈ zT := zT_of1 26 rfl rfl
theorem zw_27 : (Cond.instanceMethod ({ cls := "java/lang/Object", name := "<init>", desc := "()V" } : MethodName)) ∈ zT := zT_of1 27 rfl rfl
theorem zw_28 : (Cond.code ({ cls := "java/lang/Object", name := "<init>", desc := "()V" } : MethodName) object_method_1_code (1 : Nat) (Option.none : Option FieldType)) ∈ zT := zT_of1 28 rfl rfl
theorem zw_29 : (Cond.classLink "ChequeredCloth" (13 : Nat) "ChequeredCloth$Counters") ∈ zT := zT_of1 29 rfl rfl
theorem zw_30 : (Cond.instantiable "ChequeredCloth$Counters" (3 : Nat)) ∈ zT := zT_of1 30 rfl rfl
theorem zw_32 : (Cond.instanceMethod ({ cls := "ChequeredCloth$Counters", name := "<init>", desc := "()V" } : MethodName)) ∈ zT := zT_of1 32 rfl rfl
theorem zw_33 : (Cond.code ({ cls := "ChequeredCloth$Counters", name := "<init>", desc := "()V" } : MethodName) prog_5_method_1_code (1 : Nat) (Option.none : Option FieldType)) ∈ zT := zT_of1 33 rfl rfl
theorem zw_34 : (Cond.methodLink "ChequeredCloth$Counters" (3 : Nat) ({ cls := "java/lang/Object", name := "<init>", desc := "()V" } : MethodName)) ∈ zT := zT_of1 34 rfl rfl
theorem zw_35 : (Cond.fieldLink "ChequeredCloth$Counters" (11 : Nat) "ChequeredCloth$Counters" "lying" "[I") ∈ zT := zT_of1 35 rfl rfl
theorem zw_36 : (Cond.fieldLink "ChequeredCloth$Counters" (15 : Nat) "ChequeredCloth$Counters" "trial" "[I") ∈ zT := zT_of1 36 rfl rfl
theorem zw_37 : (Cond.fieldLink "ChequeredCloth$Counters" (18 : Nat) "ChequeredCloth$Counters" "due" "[I") ∈ zT := zT_of1 37 rfl rfl
theorem zw_38 : (Cond.laysFinal "ChequeredCloth$Counters" "ChequeredCloth$Counters" "lying" "[I") ∈ zT := zT_of1 38 rfl rfl
theorem zw_40 : (Cond.laysFinal "ChequeredCloth$Counters" "ChequeredCloth$Counters" "trial" "[I") ∈ zT := zT_of1 40 rfl rfl
theorem zw_42 : (Cond.laysFinal "ChequeredCloth$Counters" "ChequeredCloth$Counters" "due" "[I") ∈ zT := zT_of1 42 rfl rfl
theorem zw_45 : (Cond.arrayClass FieldType.int) ∈ zT := zT_of1 45 rfl rfl
theorem zw_46 : (Cond.classLink "ChequeredCloth" (20 : Nat) "ChequeredCloth$Chest") ∈ zT := zT_of1 46 rfl rfl
theorem zw_47 : (Cond.instantiable "ChequeredCloth$Chest" (13 : Nat)) ∈ zT := zT_of1 47 rfl rfl
theorem zw_48 : (Cond.methodLink "ChequeredCloth" (22 : Nat) ({ cls := "ChequeredCloth$Chest", name := "<init>", desc := "()V" } : MethodName)) ∈ zT := zT_of1 48 rfl rfl
theorem zw_49 : (Cond.instanceMethod ({ cls := "ChequeredCloth$Chest", name := "<init>", desc := "()V" } : MethodName)) ∈ zT := zT_of1 49 rfl rfl
theorem zw_50 : (Cond.code ({ cls := "ChequeredCloth$Chest", name := "<init>", desc := "()V" } : MethodName) prog_4_method_1_code (1 : Nat) (Option.none : Option FieldType)) ∈ zT := zT_of1 50 rfl rfl
theorem zw_51 : (Cond.methodLink "ChequeredCloth$Chest" (3 : Nat) ({ cls := "java/lang/Object", name := "<init>", desc := "()V" } : MethodName)) ∈ zT := zT_of1 51 rfl rfl
theorem zw_52 : (Cond.classLink "ChequeredCloth$Chest" (33 : Nat) "ChequeredCloth$Matcher") ∈ zT := zT_of1 52 rfl rfl
theorem zw_53 : (Cond.instantiable "ChequeredCloth$Matcher" (8 : Nat)) ∈ zT := zT_of1 53 rfl rfl
theorem zw_55 : (Cond.instanceMethod ({ cls := "ChequeredCloth$Matcher", name := "<init>", desc := "()V" } : MethodName)) ∈ zT := zT_of1 55 rfl rfl
theorem zw_56 : (Cond.code ({ cls := "ChequeredCloth$Matcher", name := "<init>", desc := "()V" } : MethodName) prog_8_method_1_code (1 : Nat) (Option.none : Option FieldType)) ∈ zT := zT_of1 56 rfl rfl
theorem zw_57 : (Cond.methodLink "ChequeredCloth$Matcher" (5 : Nat) ({ cls := "java/lang/Object", name := "<init>", desc := "()V" } : MethodName)) ∈ zT := zT_of1 57 rfl rfl
theorem zw_58 : (Cond.classLink "ChequeredCloth$Matcher" (11 : Nat) "[[J") ∈ zT := zT_of1 58 rfl rfl
theorem zw_60 : (Cond.fieldLink "ChequeredCloth$Matcher" (13 : Nat) "ChequeredCloth$Matcher" "costs" "[[J") ∈ zT := zT_of1 60 rfl rfl
theorem zw_61 : (Cond.fieldLink "ChequeredCloth$Matcher" (16 : Nat) "ChequeredCloth$Matcher" "rowPrices" "[J") ∈ zT := zT_of1 61 rfl rfl
theorem zw_62 : (Cond.fieldLink "ChequeredCloth$Matcher" (20 : Nat) "ChequeredCloth$Matcher" "columnPrices" "[J") ∈ zT := zT_of1 62 rfl rfl
theorem zw_63 : (Cond.fieldLink "ChequeredCloth$Matcher" (23 : Nat) "ChequeredCloth$Matcher" "gaps" "[J") ∈ zT := zT_of1 63 rfl rfl
theorem zw_64 : (Cond.fieldLink "ChequeredCloth$Matcher" (26 : Nat) "ChequeredCloth$Matcher" "rowOf" "[I") ∈ zT := zT_of1 64 rfl rfl
theorem zw_65 : (Cond.fieldLink "ChequeredCloth$Matcher" (30 : Nat) "ChequeredCloth$Matcher" "cameFrom" "[I") ∈ zT := zT_of1 65 rfl rfl
theorem zw_66 : (Cond.fieldLink "ChequeredCloth$Matcher" (33 : Nat) "ChequeredCloth$Matcher" "isReached" "[Z") ∈ zT := zT_of1 66 rfl rfl
theorem zw_67 : (Cond.fieldLink "ChequeredCloth$Matcher" (37 : Nat) "ChequeredCloth$Matcher" "mates" "[I") ∈ zT := zT_of1 67 rfl rfl
theorem zw_68 : (Cond.laysFinal "ChequeredCloth$Matcher" "ChequeredCloth$Matcher" "costs" "[[J") ∈ zT := zT_of1 68 rfl rfl
theorem zw_70 : (Cond.laysFinal "ChequeredCloth$Matcher" "ChequeredCloth$Matcher" "rowPrices" "[J") ∈ zT := zT_of1 70 rfl rfl
theorem zw_72 : (Cond.laysFinal "ChequeredCloth$Matcher" "ChequeredCloth$Matcher" "columnPrices" "[J") ∈ zT := zT_of1 72 rfl rfl
theorem zw_74 : (Cond.laysFinal "ChequeredCloth$Matcher" "ChequeredCloth$Matcher" "gaps" "[J") ∈ zT := zT_of1 74 rfl rfl
theorem zw_76 : (Cond.laysFinal "ChequeredCloth$Matcher" "ChequeredCloth$Matcher" "rowOf" "[I") ∈ zT := zT_of1 76 rfl rfl
theorem zw_78 : (Cond.laysFinal "ChequeredCloth$Matcher" "ChequeredCloth$Matcher" "cameFrom" "[I") ∈ zT := zT_of1 78 rfl rfl
theorem zw_80 : (Cond.laysFinal "ChequeredCloth$Matcher" "ChequeredCloth$Matcher" "isReached" "[Z") ∈ zT := zT_of1 80 rfl rfl
theorem zw_82 : (Cond.laysFinal "ChequeredCloth$Matcher" "ChequeredCloth$Matcher" "mates" "[I") ∈ zT := zT_of1 82 rfl rfl
theorem zw_85 : (Cond.arrayClass FieldType.long) ∈ zT := zT_of1 85 rfl rfl
theorem zw_86 : (Cond.arrayClass FieldType.boolean) ∈ zT := zT_of1 86 rfl rfl
theorem zw_87 : (Cond.methodLink "ChequeredCloth$Chest" (50 : Nat) ({ cls := "java/util/Arrays", name := "fill", desc := "([II)V" } : MethodName)) ∈ zT := zT_of1 87 rfl rfl
theorem zw_88 : (Cond.static ({ cls := "java/util/Arrays", name := "fill", desc := "([II)V" } : MethodName)) ∈ zT := zT_of1 88 rfl rfl
theorem zw_89 : (Cond.code ({ cls := "java/util/Arrays", name := "fill", desc := "([II)V" } : MethodName) prog_21_method_103_code (4 : Nat) (Option.none : Option FieldType)) ∈ zT := zT_of1 89 rfl rfl
theorem zw_90 : (Cond.fieldLink "ChequeredCloth$Chest" (11 : Nat) "ChequeredCloth$Chest" "places" "[I") ∈ zT := zT_of1 90 rfl rfl
theorem zw_91 : (Cond.fieldLink "ChequeredCloth$Chest" (15 : Nat) "ChequeredCloth$Chest" "worths" "[I") ∈ zT := zT_of1 91 rfl rfl
theorem zw_92 : (Cond.fieldLink "ChequeredCloth$Chest" (18 : Nat) "ChequeredCloth$Chest" "sizes" "[I") ∈ zT := zT_of1 92 rfl rfl
theorem zw_93 : (Cond.fieldLink "ChequeredCloth$Chest" (21 : Nat) "ChequeredCloth$Chest" "fits" "[I") ∈ zT := zT_of1 93 rfl rfl
theorem zw_94 : (Cond.fieldLink "ChequeredCloth$Chest" (24 : Nat) "ChequeredCloth$Chest" "above" "[I") ∈ zT := zT_of1 94 rfl rfl
theorem zw_95 : (Cond.fieldLink "ChequeredCloth$Chest" (27 : Nat) "ChequeredCloth$Chest" "row" "[I") ∈ zT := zT_of1 95 rfl rfl
theorem zw_96 : (Cond.fieldLink "ChequeredCloth$Chest" (30 : Nat) "ChequeredCloth$Chest" "goodWorths" "[I") ∈ zT := zT_of1 96 rfl rfl
theorem zw_97 : (Cond.fieldLink "ChequeredCloth$Chest" (36 : Nat) "ChequeredCloth$Chest" "matcher" "LChequeredCloth$Matcher;") ∈ zT := zT_of1 97 rfl rfl
theorem zw_98 : (Cond.fieldLink "ChequeredCloth$Chest" (40 : Nat) "ChequeredCloth$Chest" "grain" "I") ∈ zT := zT_of1 98 rfl rfl
theorem zw_99 : (Cond.fieldLink "ChequeredCloth$Chest" (44 : Nat) "ChequeredCloth$Chest" "lost" "I") ∈ zT := zT_of1 99 rfl rfl
theorem zw_100 : (Cond.fieldLink "ChequeredCloth$Chest" (47 : Nat) "ChequeredCloth$Chest" "limit" "I") ∈ zT := zT_of1 100 rfl rfl
theorem zw_101 : (Cond.fieldLink "ChequeredCloth$Chest" (70 : Nat) "ChequeredCloth$Chest" "isMatched" "Z") ∈ zT := zT_of1 101 rfl rfl
theorem zw_102 : (Cond.fieldLink "ChequeredCloth$Chest" (74 : Nat) "ChequeredCloth$Chest" "changes" "I") ∈ zT := zT_of1 102 rfl rfl
theorem zw_103 : (Cond.laysFinal "ChequeredCloth$Chest" "ChequeredCloth$Chest" "places" "[I") ∈ zT := zT_of1 103 rfl rfl
theorem zw_105 : (Cond.laysFinal "ChequeredCloth$Chest" "ChequeredCloth$Chest" "worths" "[I") ∈ zT := zT_of1 105 rfl rfl
theorem zw_107 : (Cond.laysFinal "ChequeredCloth$Chest" "ChequeredCloth$Chest" "sizes" "[I") ∈ zT := zT_of1 107 rfl rfl
theorem zw_109 : (Cond.laysFinal "ChequeredCloth$Chest" "ChequeredCloth$Chest" "fits" "[I") ∈ zT := zT_of1 109 rfl rfl
theorem zw_111 : (Cond.laysFinal "ChequeredCloth$Chest" "ChequeredCloth$Chest" "above" "[I") ∈ zT := zT_of1 111 rfl rfl
theorem zw_113 : (Cond.laysFinal "ChequeredCloth$Chest" "ChequeredCloth$Chest" "row" "[I") ∈ zT := zT_of1 113 rfl rfl
theorem zw_115 : (Cond.laysFinal "ChequeredCloth$Chest" "ChequeredCloth$Chest" "goodWorths" "[I") ∈ zT := zT_of1 115 rfl rfl
theorem zw_117 : (Cond.laysFinal "ChequeredCloth$Chest" "ChequeredCloth$Chest" "matcher" "LChequeredCloth$Matcher;") ∈ zT := zT_of1 117 rfl rfl
theorem zw_119 : (Cond.lays "ChequeredCloth$Chest" "ChequeredCloth$Chest" "grain" "I") ∈ zT := zT_of1 119 rfl rfl
theorem zw_121 : (Cond.lays "ChequeredCloth$Chest" "ChequeredCloth$Chest" "lost" "I") ∈ zT := zT_of1 121 rfl rfl
theorem zw_123 : (Cond.lays "ChequeredCloth$Chest" "ChequeredCloth$Chest" "limit" "I") ∈ zT := zT_of1 123 rfl rfl
theorem zw_125 : (Cond.lays "ChequeredCloth$Chest" "ChequeredCloth$Chest" "isMatched" "Z") ∈ zT := zT_of1 125 rfl rfl
theorem zw_127 : (Cond.lays "ChequeredCloth$Chest" "ChequeredCloth$Chest" "changes" "I") ∈ zT := zT_of1 127 rfl rfl
theorem zw_130 : (Cond.classLink "ChequeredCloth" (27 : Nat) "ChequeredCloth$Reader") ∈ zT := zT_of1 130 rfl rfl
theorem zw_131 : (Cond.instantiable "ChequeredCloth$Reader" (12 : Nat)) ∈ zT := zT_of1 131 rfl rfl
theorem zw_133 : (Cond.instanceMethod ({ cls := "ChequeredCloth$Reader", name := "<init>", desc := "()V" } : MethodName)) ∈ zT := zT_of1 133 rfl rfl
theorem zw_134 : (Cond.code ({ cls := "ChequeredCloth$Reader", name := "<init>", desc := "()V" } : MethodName) prog_9_method_1_code (1 : Nat) (Option.none : Option FieldType)) ∈ zT := zT_of1 134 rfl rfl
theorem zw_135 : (Cond.methodLink "ChequeredCloth$Reader" (3 : Nat) ({ cls := "java/lang/Object", name := "<init>", desc := "()V" } : MethodName)) ∈ zT := zT_of1 135 rfl rfl
theorem zw_136 : (Cond.classLink "ChequeredCloth$Reader" (19 : Nat) "ChequeredCloth$Statement") ∈ zT := zT_of1 136 rfl rfl
theorem zw_138 : (Cond.fieldLink "ChequeredCloth$Reader" (11 : Nat) "ChequeredCloth$Reader" "tape" "[C") ∈ zT := zT_of1 138 rfl rfl
theorem zw_139 : (Cond.fieldLink "ChequeredCloth$Reader" (15 : Nat) "ChequeredCloth$Reader" "code" "[I") ∈ zT := zT_of1 139 rfl rfl
theorem zw_140 : (Cond.fieldLink "ChequeredCloth$Reader" (21 : Nat) "ChequeredCloth$Reader" "statements" "[LChequeredCloth$Statement;") ∈ zT := zT_of1 140 rfl rfl
theorem zw_141 : (Cond.fieldLink "ChequeredCloth$Reader" (29 : Nat) "ChequeredCloth$Reader" "length" "I") ∈ zT := zT_of1 141 rfl rfl
theorem zw_142 : (Cond.fieldLink "ChequeredCloth$Reader" (35 : Nat) "ChequeredCloth$Reader" "size" "I") ∈ zT := zT_of1 142 rfl rfl
theorem zw_143 : (Cond.fieldLink "ChequeredCloth$Reader" (38 : Nat) "ChequeredCloth$Reader" "count" "I") ∈ zT := zT_of1 143 rfl rfl
theorem zw_144 : (Cond.fieldLink "ChequeredCloth$Reader" (44 : Nat) "ChequeredCloth$Reader" "kind" "I") ∈ zT := zT_of1 144 rfl rfl
theorem zw_145 : (Cond.fieldLink "ChequeredCloth$Reader" (57 : Nat) "ChequeredCloth$Reader" "at" "I") ∈ zT := zT_of1 145 rfl rfl
theorem zw_146 : (Cond.fieldLink "ChequeredCloth$Reader" (47 : Nat) "ChequeredCloth$Reader" "stop" "I") ∈ zT := zT_of1 146 rfl rfl
theorem zw_147 : (Cond.fieldLink "ChequeredCloth$Reader" (41 : Nat) "ChequeredCloth$Reader" "open" "I") ∈ zT := zT_of1 147 rfl rfl
theorem zw_148 : (Cond.fieldLink "ChequeredCloth$Reader" (32 : Nat) "ChequeredCloth$Reader" "fault" "I") ∈ zT := zT_of1 148 rfl rfl
theorem zw_149 : (Cond.fieldLink "ChequeredCloth$Reader" (25 : Nat) "ChequeredCloth$Reader" "faultAt" "I") ∈ zT := zT_of1 149 rfl rfl
theorem zw_150 : (Cond.laysFinal "ChequeredCloth$Reader" "ChequeredCloth$Reader" "tape" "[C") ∈ zT := zT_of1 150 rfl rfl
theorem zw_152 : (Cond.laysFinal "ChequeredCloth$Reader" "ChequeredCloth$Reader" "code" "[I") ∈ zT := zT_of1 152 rfl rfl
theorem zw_154 : (Cond.laysFinal "ChequeredCloth$Reader" "ChequeredCloth$Reader" "statements" "[LChequeredCloth$Statement;") ∈ zT := zT_of1 154 rfl rfl
theorem zw_156 : (Cond.lays "ChequeredCloth$Reader" "ChequeredCloth$Reader" "length" "I") ∈ zT := zT_of1 156 rfl rfl
theorem zw_158 : (Cond.lays "ChequeredCloth$Reader" "ChequeredCloth$Reader" "size" "I") ∈ zT := zT_of1 158 rfl rfl
theorem zw_160 : (Cond.lays "ChequeredCloth$Reader" "ChequeredCloth$Reader" "count" "I") ∈ zT := zT_of1 160 rfl rfl
theorem zw_162 : (Cond.lays "ChequeredCloth$Reader" "ChequeredCloth$Reader" "kind" "I") ∈ zT := zT_of1 162 rfl rfl
theorem zw_164 : (Cond.lays "ChequeredCloth$Reader" "ChequeredCloth$Reader" "at" "I") ∈ zT := zT_of1 164 rfl rfl
theorem zw_166 : (Cond.lays "ChequeredCloth$Reader" "ChequeredCloth$Reader" "stop" "I") ∈ zT := zT_of1 166 rfl rfl
theorem zw_168 : (Cond.lays "ChequeredCloth$Reader" "ChequeredCloth$Reader" "open" "I") ∈ zT := zT_of1 168 rfl rfl
theorem zw_170 : (Cond.lays "ChequeredCloth$Reader" "ChequeredCloth$Reader" "fault" "I") ∈ zT := zT_of1 170 rfl rfl
theorem zw_172 : (Cond.lays "ChequeredCloth$Reader" "ChequeredCloth$Reader" "faultAt" "I") ∈ zT := zT_of1 172 rfl rfl
theorem zw_175 : (Cond.arrayClass FieldType.char) ∈ zT := zT_of1 175 rfl rfl
theorem zw_176 : (Cond.classLink "ChequeredCloth" (34 : Nat) "ChequeredCloth$Acts") ∈ zT := zT_of1 176 rfl rfl
theorem zw_177 : (Cond.instantiable "ChequeredCloth$Acts" (8 : Nat)) ∈ zT := zT_of1 177 rfl rfl
theorem zw_179 : (Cond.instanceMethod ({ cls := "ChequeredCloth$Acts", name := "<init>", desc := "()V" } : MethodName)) ∈ zT := zT_of1 179 rfl rfl
theorem zw_180 : (Cond.code ({ cls := "ChequeredCloth$Acts", name := "<init>", desc := "()V" } : MethodName) prog_2_method_1_code (1 : Nat) (Option.none : Option FieldType)) ∈ zT := zT_of1 180 rfl rfl
theorem zw_181 : (Cond.methodLink "ChequeredCloth$Acts" (3 : Nat) ({ cls := "java/lang/Object", name := "<init>", desc := "()V" } : MethodName)) ∈ zT := zT_of1 181 rfl rfl
theorem zw_182 : (Cond.classLink "ChequeredCloth$Acts" (27 : Nat) "ChequeredCloth$Writ") ∈ zT := zT_of1 182 rfl rfl
theorem zw_184 : (Cond.fieldLink "ChequeredCloth$Acts" (9 : Nat) "ChequeredCloth$Acts" "kinds" "[I") ∈ zT := zT_of1 184 rfl rfl
theorem zw_188 : (Cond.fieldLink "ChequeredCloth$Acts" (15 : Nat) "ChequeredCloth$Acts" "shires" "[I") ∈ zT := zT_of1 188 rfl rfl
theorem zw_191 : (Cond.fieldLink "ChequeredCloth$Acts" (18 : Nat) "ChequeredCloth$Acts" "terms" "[I") ∈ zT := zT_of1 191 rfl rfl
theorem zw_194 : (Cond.fieldLink "ChequeredCloth$Acts" (21 : Nat) "ChequeredCloth$Acts" "amounts" "[I") ∈ zT := zT_of1 194 rfl rfl
theorem zw_197 : (Cond.fieldLink "ChequeredCloth$Acts" (24 : Nat) "ChequeredCloth$Acts" "voidedBy" "[I") ∈ zT := zT_of1 197 rfl rfl
theorem zw_198 : (Cond.fieldLink "ChequeredCloth$Acts" (29 : Nat) "ChequeredCloth$Acts" "writs" "[LChequeredCloth$Writ;") ∈ zT := zT_of1 198 rfl rfl
theorem zw_200 : (Cond.fieldLink "ChequeredCloth$Acts" (33 : Nat) "ChequeredCloth$Acts" "count" "I") ∈ zT := zT_of1 200 rfl rfl
theorem zw_201 : (Cond.fieldLink "ChequeredCloth$Acts" (45 : Nat) "ChequeredCloth$Acts" "payments" "I") ∈ zT := zT_of1 201 rfl rfl
theorem zw_202 : (Cond.laysFinal "ChequeredCloth$Acts" "ChequeredCloth$Acts" "kinds" "[I") ∈ zT := zT_of1 202 rfl rfl
theorem zw_204 : (Cond.laysFinal "ChequeredCloth$Acts" "ChequeredCloth$Acts" "shires" "[I") ∈ zT := zT_of1 204 rfl rfl
theorem zw_206 : (Cond.laysFinal "ChequeredCloth$Acts" "ChequeredCloth$Acts" "terms" "[I") ∈ zT := zT_of1 206 rfl rfl
theorem zw_208 : (Cond.laysFinal "ChequeredCloth$Acts" "ChequeredCloth$Acts" "amounts" "[I") ∈ zT := zT_of1 208 rfl rfl
theorem zw_210 : (Cond.laysFinal "ChequeredCloth$Acts" "ChequeredCloth$Acts" "voidedBy" "[I") ∈ zT := zT_of1 210 rfl rfl
theorem zw_212 : (Cond.laysFinal "ChequeredCloth$Acts" "ChequeredCloth$Acts" "writs" "[LChequeredCloth$Writ;") ∈ zT := zT_of1 212 rfl rfl
theorem zw_214 : (Cond.lays "ChequeredCloth$Acts" "ChequeredCloth$Acts" "count" "I") ∈ zT := zT_of1 214 rfl rfl
theorem zw_216 : (Cond.lays "ChequeredCloth$Acts" "ChequeredCloth$Acts" "payments" "I") ∈ zT := zT_of1 216 rfl rfl
theorem zw_219 : (Cond.classLink "ChequeredCloth" (41 : Nat) "ChequeredCloth$Audit") ∈ zT := zT_of1 219 rfl rfl
theorem zw_220 : (Cond.instantiable "ChequeredCloth$Audit" (10 : Nat)) ∈ zT := zT_of1 220 rfl rfl
theorem zw_221 : (Cond.methodLink "ChequeredCloth" (43 : Nat) ({ cls := "ChequeredCloth$Audit", name := "<init>", desc := "(LChequeredCloth$Acts;LChequeredCloth$Chest;)V" } : MethodName)) ∈ zT := zT_of1 221 rfl rfl
theorem zw_222 : (Cond.instanceMethod ({ cls := "ChequeredCloth$Audit", name := "<init>", desc := "(LChequeredCloth$Acts;LChequeredCloth$Chest;)V" } : MethodName)) ∈ zT := zT_of1 222 rfl rfl
theorem zw_223 : (Cond.code ({ cls := "ChequeredCloth$Audit", name := "<init>", desc := "(LChequeredCloth$Acts;LChequeredCloth$Chest;)V" } : MethodName) prog_3_method_1_code (5 : Nat) (Option.none : Option FieldType)) ∈ zT := zT_of1 223 rfl rfl
theorem zw_224 : (Cond.methodLink "ChequeredCloth$Audit" (3 : Nat) ({ cls := "java/lang/Object", name := "<init>", desc := "()V" } : MethodName)) ∈ zT := zT_of1 224 rfl rfl
theorem zw_225 : (Cond.classLink "ChequeredCloth$Audit" (9 : Nat) "ChequeredCloth$Roll") ∈ zT := zT_of1 225 rfl rfl
theorem zw_227 : (Cond.classLink "ChequeredCloth$Audit" (27 : Nat) "ChequeredCloth$Judge") ∈ zT := zT_of1 227 rfl rfl
theorem zw_228 : (Cond.instantiable "ChequeredCloth$Judge" (5 : Nat)) ∈ zT := zT_of1 228 rfl rfl
theorem zw_230 : (Cond.instanceMethod ({ cls := "ChequeredCloth$Judge", name := "<init>", desc := "()V" } : MethodName)) ∈ zT := zT_of1 230 rfl rfl
theorem zw_231 : (Cond.code ({ cls := "ChequeredCloth$Judge", name := "<init>", desc := "()V" } : MethodName) prog_6_method_1_code (1 : Nat) (Option.none : Option FieldType)) ∈ zT := zT_of1 231 rfl rfl
theorem zw_232 : (Cond.methodLink "ChequeredCloth$Judge" (1 : Nat) ({ cls := "java/lang/Object", name := "<init>", desc := "()V" } : MethodName)) ∈ zT := zT_of1 232 rfl rfl
theorem zw_233 : (Cond.fieldLink "ChequeredCloth$Judge" (9 : Nat) "ChequeredCloth$Judge" "stack" "[J") ∈ zT := zT_of1 233 rfl rfl
theorem zw_234 : (Cond.fieldLink "ChequeredCloth$Judge" (13 : Nat) "ChequeredCloth$Judge" "shire" "I") ∈ zT := zT_of1 234 rfl rfl
theorem zw_235 : (Cond.fieldLink "ChequeredCloth$Judge" (17 : Nat) "ChequeredCloth$Judge" "term" "I") ∈ zT := zT_of1 235 rfl rfl
theorem zw_236 : (Cond.fieldLink "ChequeredCloth$Judge" (33 : Nat) "ChequeredCloth$Judge" "debt" "J") ∈ zT := zT_of1 236 rfl rfl
theorem zw_237 : (Cond.fieldLink "ChequeredCloth$Judge" (37 : Nat) "ChequeredCloth$Judge" "paid" "J") ∈ zT := zT_of1 237 rfl rfl
theorem zw_238 : (Cond.laysFinal "ChequeredCloth$Judge" "ChequeredCloth$Judge" "stack" "[J") ∈ zT := zT_of1 238 rfl rfl
theorem zw_240 : (Cond.lays "ChequeredCloth$Judge" "ChequeredCloth$Judge" "shire" "I") ∈ zT := zT_of2 0 rfl rfl
theorem zw_242 : (Cond.lays "ChequeredCloth$Judge" "ChequeredCloth$Judge" "term" "I") ∈ zT := zT_of2 2 rfl rfl
theorem zw_244 : (Cond.lays "ChequeredCloth$Judge" "ChequeredCloth$Judge" "debt" "J") ∈ zT := zT_of2 4 rfl rfl
theorem zw_246 : (Cond.lays "ChequeredCloth$Judge" "ChequeredCloth$Judge" "paid" "J") ∈ zT := zT_of2 6 rfl rfl
theorem zw_249 : (Cond.classLink "ChequeredCloth$Audit" (38 : Nat) "ChequeredCloth$Known") ∈ zT := zT_of2 9 rfl rfl
theorem zw_250 : (Cond.instantiable "ChequeredCloth$Known" (5 : Nat)) ∈ zT := zT_of2 10 rfl rfl
theorem zw_251 : (Cond.methodLink "ChequeredCloth$Audit" (40 : Nat) ({ cls := "ChequeredCloth$Known", name := "<init>", desc := "(LChequeredCloth$Acts;)V" } : MethodName)) ∈ zT := zT_of2 11 rfl rfl
theorem zw_252 : (Cond.instanceMethod ({ cls := "ChequeredCloth$Known", name := "<init>", desc := "(LChequeredCloth$Acts;)V" } : MethodName)) ∈ zT := zT_of2 12 rfl rfl
theorem zw_253 : (Cond.code ({ cls := "ChequeredCloth$Known", name := "<init>", desc := "(LChequeredCloth$Acts;)V" } : MethodName) prog_7_method_1_code (2 : Nat) (Option.none : Option FieldType)) ∈ zT := zT_of2 13 rfl rfl
theorem zw_254 : (Cond.methodLink "ChequeredCloth$Known" (3 : Nat) ({ cls := "java/lang/Object", name := "<init>", desc := "()V" } : MethodName)) ∈ zT := zT_of2 14 rfl rfl
theorem zw_255 : (Cond.fieldLink "ChequeredCloth$Known" (24 : Nat) "ChequeredCloth$Known" "acts" "LChequeredCloth$Acts;") ∈ zT := zT_of2 15 rfl rfl
theorem zw_256 : (Cond.fieldLink "ChequeredCloth$Known" (9 : Nat) "ChequeredCloth$Known" "writs" "[I") ∈ zT := zT_of2 16 rfl rfl
theorem zw_257 : (Cond.fieldLink "ChequeredCloth$Known" (15 : Nat) "ChequeredCloth$Known" "fires" "[I") ∈ zT := zT_of2 17 rfl rfl
theorem zw_258 : (Cond.fieldLink "ChequeredCloth$Known" (18 : Nat) "ChequeredCloth$Known" "firstPayments" "[I") ∈ zT := zT_of2 18 rfl rfl
theorem zw_259 : (Cond.fieldLink "ChequeredCloth$Known" (21 : Nat) "ChequeredCloth$Known" "nextPayments" "[I") ∈ zT := zT_of2 19 rfl rfl
theorem zw_260 : (Cond.laysFinal "ChequeredCloth$Known" "ChequeredCloth$Known" "acts" "LChequeredCloth$Acts;") ∈ zT := zT_of2 20 rfl rfl
theorem zw_262 : (Cond.laysFinal "ChequeredCloth$Known" "ChequeredCloth$Known" "writs" "[I") ∈ zT := zT_of2 22 rfl rfl
theorem zw_264 : (Cond.laysFinal "ChequeredCloth$Known" "ChequeredCloth$Known" "fires" "[I") ∈ zT := zT_of2 24 rfl rfl
theorem zw_266 : (Cond.laysFinal "ChequeredCloth$Known" "ChequeredCloth$Known" "firstPayments" "[I") ∈ zT := zT_of2 26 rfl rfl
theorem zw_268 : (Cond.laysFinal "ChequeredCloth$Known" "ChequeredCloth$Known" "nextPayments" "[I") ∈ zT := zT_of2 28 rfl rfl
theorem zw_271 : (Cond.instantiable "ChequeredCloth$Roll" (15 : Nat)) ∈ zT := zT_of2 31 rfl rfl
theorem zw_272 : (Cond.methodLink "ChequeredCloth$Audit" (50 : Nat) ({ cls := "ChequeredCloth$Roll", name := "<init>", desc := "(LChequeredCloth$Acts;LChequeredCloth$Chest;LChequeredCloth$Known;LChequeredCloth$Judge;)V" } : MethodName)) ∈ zT := zT_of2 32 rfl rfl
theorem zw_273 : (Cond.instanceMethod ({ cls := "ChequeredCloth$Roll", name := "<init>", desc := "(LChequeredCloth$Acts;LChequeredCloth$Chest;LChequeredCloth$Known;LChequeredCloth$Judge;)V" } : MethodName)) ∈ zT := zT_of2 33 rfl rfl
theorem zw_274 : (Cond.code ({ cls := "ChequeredCloth$Roll", name := "<init>", desc := "(LChequeredCloth$Acts;LChequeredCloth$Chest;LChequeredCloth$Known;LChequeredCloth$Judge;)V" } : MethodName) prog_10_method_1_code (5 : Nat) (Option.none : Option FieldType)) ∈ zT := zT_of2 34 rfl rfl
theorem zw_275 : (Cond.methodLink "ChequeredCloth$Roll" (3 : Nat) ({ cls := "java/lang/Object", name := "<init>", desc := "()V" } : MethodName)) ∈ zT := zT_of2 35 rfl rfl
theorem zw_276 : (Cond.fieldLink "ChequeredCloth$Roll" (30 : Nat) "ChequeredCloth$Roll" "acts" "LChequeredCloth$Acts;") ∈ zT := zT_of2 36 rfl rfl
theorem zw_277 : (Cond.fieldLink "ChequeredCloth$Roll" (34 : Nat) "ChequeredCloth$Roll" "chest" "LChequeredCloth$Chest;") ∈ zT := zT_of2 37 rfl rfl
theorem zw_278 : (Cond.fieldLink "ChequeredCloth$Roll" (38 : Nat) "ChequeredCloth$Roll" "known" "LChequeredCloth$Known;") ∈ zT := zT_of2 38 rfl rfl
theorem zw_279 : (Cond.fieldLink "ChequeredCloth$Roll" (42 : Nat) "ChequeredCloth$Roll" "judge" "LChequeredCloth$Judge;") ∈ zT := zT_of2 39 rfl rfl
theorem zw_280 : (Cond.fieldLink "ChequeredCloth$Roll" (9 : Nat) "ChequeredCloth$Roll" "debts" "[J") ∈ zT := zT_of2 40 rfl rfl
theorem zw_281 : (Cond.fieldLink "ChequeredCloth$Roll" (15 : Nat) "ChequeredCloth$Roll" "farms" "[J") ∈ zT := zT_of2 41 rfl rfl
theorem zw_282 : (Cond.fieldLink "ChequeredCloth$Roll" (18 : Nat) "ChequeredCloth$Roll" "allowances" "[J") ∈ zT := zT_of2 42 rfl rfl
theorem zw_283 : (Cond.fieldLink "ChequeredCloth$Roll" (21 : Nat) "ChequeredCloth$Roll" "pardons" "[J") ∈ zT := zT_of2 43 rfl rfl
theorem zw_284 : (Cond.fieldLink "ChequeredCloth$Roll" (24 : Nat) "ChequeredCloth$Roll" "payments" "[J") ∈ zT := zT_of2 44 rfl rfl
theorem zw_285 : (Cond.fieldLink "ChequeredCloth$Roll" (27 : Nat) "ChequeredCloth$Roll" "putOff" "[J") ∈ zT := zT_of2 45 rfl rfl
theorem zw_286 : (Cond.fieldLink "ChequeredCloth$Roll" (46 : Nat) "ChequeredCloth$Roll" "shire" "I") ∈ zT := zT_of2 46 rfl rfl
theorem zw_287 : (Cond.fieldLink "ChequeredCloth$Roll" (50 : Nat) "ChequeredCloth$Roll" "told" "I") ∈ zT := zT_of2 47 rfl rfl
theorem zw_288 : (Cond.fieldLink "ChequeredCloth$Roll" (99 : Nat) "ChequeredCloth$Roll" "debt" "J") ∈ zT := zT_of2 48 rfl rfl
theorem zw_289 : (Cond.fieldLink "ChequeredCloth$Roll" (74 : Nat) "ChequeredCloth$Roll" "paid" "J") ∈ zT := zT_of2 49 rfl rfl
theorem zw_290 : (Cond.fieldLink "ChequeredCloth$Roll" (78 : Nat) "ChequeredCloth$Roll" "blanched" "Z") ∈ zT := zT_of2 50 rfl rfl
theorem zw_291 : (Cond.laysFinal "ChequeredCloth$Roll" "ChequeredCloth$Roll" "acts" "LChequeredCloth$Acts;") ∈ zT := zT_of2 51 rfl rfl
theorem zw_293 : (Cond.laysFinal "ChequeredCloth$Roll" "ChequeredCloth$Roll" "chest" "LChequeredCloth$Chest;") ∈ zT := zT_of2 53 rfl rfl
theorem zw_295 : (Cond.laysFinal "ChequeredCloth$Roll" "ChequeredCloth$Roll" "known" "LChequeredCloth$Known;") ∈ zT := zT_of2 55 rfl rfl
theorem zw_297 : (Cond.laysFinal "ChequeredCloth$Roll" "ChequeredCloth$Roll" "judge" "LChequeredCloth$Judge;") ∈ zT := zT_of2 57 rfl rfl
theorem zw_299 : (Cond.laysFinal "ChequeredCloth$Roll" "ChequeredCloth$Roll" "debts" "[J") ∈ zT := zT_of2 59 rfl rfl
theorem zw_301 : (Cond.laysFinal "ChequeredCloth$Roll" "ChequeredCloth$Roll" "farms" "[J") ∈ zT := zT_of2 61 rfl rfl
theorem zw_303 : (Cond.laysFinal "ChequeredCloth$Roll" "ChequeredCloth$Roll" "allowances" "[J") ∈ zT := zT_of2 63 rfl rfl
theorem zw_305 : (Cond.laysFinal "ChequeredCloth$Roll" "ChequeredCloth$Roll" "pardons" "[J") ∈ zT := zT_of2 65 rfl rfl
theorem zw_307 : (Cond.laysFinal "ChequeredCloth$Roll" "ChequeredCloth$Roll" "payments" "[J") ∈ zT := zT_of2 67 rfl rfl
theorem zw_309 : (Cond.laysFinal "ChequeredCloth$Roll" "ChequeredCloth$Roll" "putOff" "[J") ∈ zT := zT_of2 69 rfl rfl
theorem zw_311 : (Cond.lays "ChequeredCloth$Roll" "ChequeredCloth$Roll" "shire" "I") ∈ zT := zT_of2 71 rfl rfl
theorem zw_313 : (Cond.lays "ChequeredCloth$Roll" "ChequeredCloth$Roll" "told" "I") ∈ zT := zT_of2 73 rfl rfl
theorem zw_315 : (Cond.lays "ChequeredCloth$Roll" "ChequeredCloth$Roll" "debt" "J") ∈ zT := zT_of2 75 rfl rfl
theorem zw_317 : (Cond.lays "ChequeredCloth$Roll" "ChequeredCloth$Roll" "paid" "J") ∈ zT := zT_of2 77 rfl rfl
theorem zw_319 : (Cond.lays "ChequeredCloth$Roll" "ChequeredCloth$Roll" "blanched" "Z") ∈ zT := zT_of2 79 rfl rfl
theorem zw_322 : (Cond.fieldLink "ChequeredCloth$Audit" (30 : Nat) "ChequeredCloth$Audit" "acts" "LChequeredCloth$Acts;") ∈ zT := zT_of2 82 rfl rfl
theorem zw_323 : (Cond.fieldLink "ChequeredCloth$Audit" (34 : Nat) "ChequeredCloth$Audit" "chest" "LChequeredCloth$Chest;") ∈ zT := zT_of2 83 rfl rfl
theorem zw_324 : (Cond.fieldLink "ChequeredCloth$Audit" (43 : Nat) "ChequeredCloth$Audit" "known" "LChequeredCloth$Known;") ∈ zT := zT_of2 84 rfl rfl
theorem zw_325 : (Cond.fieldLink "ChequeredCloth$Audit" (47 : Nat) "ChequeredCloth$Audit" "otherwise" "LChequeredCloth$Known;") ∈ zT := zT_of2 85 rfl rfl
theorem zw_326 : (Cond.fieldLink "ChequeredCloth$Audit" (11 : Nat) "ChequeredCloth$Audit" "rolls" "[LChequeredCloth$Roll;") ∈ zT := zT_of2 86 rfl rfl
theorem zw_327 : (Cond.fieldLink "ChequeredCloth$Audit" (53 : Nat) "ChequeredCloth$Audit" "trial" "LChequeredCloth$Roll;") ∈ zT := zT_of2 87 rfl rfl
theorem zw_328 : (Cond.fieldLink "ChequeredCloth$Audit" (57 : Nat) "ChequeredCloth$Audit" "without" "LChequeredCloth$Roll;") ∈ zT := zT_of2 88 rfl rfl
theorem zw_329 : (Cond.fieldLink "ChequeredCloth$Audit" (17 : Nat) "ChequeredCloth$Audit" "knownAt" "I") ∈ zT := zT_of2 89 rfl rfl
theorem zw_330 : (Cond.fieldLink "ChequeredCloth$Audit" (21 : Nat) "ChequeredCloth$Audit" "chestAt" "I") ∈ zT := zT_of2 90 rfl rfl
theorem zw_331 : (Cond.fieldLink "ChequeredCloth$Audit" (24 : Nat) "ChequeredCloth$Audit" "movedTo" "I") ∈ zT := zT_of2 91 rfl rfl
theorem zw_332 : (Cond.laysFinal "ChequeredCloth$Audit" "ChequeredCloth$Audit" "acts" "LChequeredCloth$Acts;") ∈ zT := zT_of2 92 rfl rfl
theorem zw_334 : (Cond.laysFinal "ChequeredCloth$Audit" "ChequeredCloth$Audit" "chest" "LChequeredCloth$Chest;") ∈ zT := zT_of2 94 rfl rfl
theorem zw_336 : (Cond.laysFinal "ChequeredCloth$Audit" "ChequeredCloth$Audit" "known" "LChequeredCloth$Known;") ∈ zT := zT_of2 96 rfl rfl
theorem zw_338 : (Cond.laysFinal "ChequeredCloth$Audit" "ChequeredCloth$Audit" "otherwise" "LChequeredCloth$Known;") ∈ zT := zT_of2 98 rfl rfl
theorem zw_340 : (Cond.laysFinal "ChequeredCloth$Audit" "ChequeredCloth$Audit" "rolls" "[LChequeredCloth$Roll;") ∈ zT := zT_of2 100 rfl rfl
theorem zw_342 : (Cond.laysFinal "ChequeredCloth$Audit" "ChequeredCloth$Audit" "trial" "LChequeredCloth$Roll;") ∈ zT := zT_of2 102 rfl rfl
theorem zw_344 : (Cond.laysFinal "ChequeredCloth$Audit" "ChequeredCloth$Audit" "without" "LChequeredCloth$Roll;") ∈ zT := zT_of2 104 rfl rfl
theorem zw_346 : (Cond.lays "ChequeredCloth$Audit" "ChequeredCloth$Audit" "knownAt" "I") ∈ zT := zT_of2 106 rfl rfl
theorem zw_348 : (Cond.lays "ChequeredCloth$Audit" "ChequeredCloth$Audit" "chestAt" "I") ∈ zT := zT_of2 108 rfl rfl
theorem zw_350 : (Cond.lays "ChequeredCloth$Audit" "ChequeredCloth$Audit" "movedTo" "I") ∈ zT := zT_of2 110 rfl rfl
theorem zw_353 : (Cond.fieldLink "ChequeredCloth" (16 : Nat) "ChequeredCloth" "counters" "LChequeredCloth$Counters;") ∈ zT := zT_of2 113 rfl rfl
theorem zw_354 : (Cond.fieldLink "ChequeredCloth" (23 : Nat) "ChequeredCloth" "chest" "LChequeredCloth$Chest;") ∈ zT := zT_of2 114 rfl rfl
theorem zw_355 : (Cond.fieldLink "ChequeredCloth" (30 : Nat) "ChequeredCloth" "reader" "LChequeredCloth$Reader;") ∈ zT := zT_of2 115 rfl rfl
theorem zw_356 : (Cond.fieldLink "ChequeredCloth" (37 : Nat) "ChequeredCloth" "acts" "LChequeredCloth$Acts;") ∈ zT := zT_of2 116 rfl rfl
theorem zw_357 : (Cond.fieldLink "ChequeredCloth" (46 : Nat) "ChequeredCloth" "audit" "LChequeredCloth$Audit;") ∈ zT := zT_of2 117 rfl rfl
theorem zw_358 : (Cond.fieldLink "ChequeredCloth" (9 : Nat) "ChequeredCloth" "knownAt" "I") ∈ zT := zT_of2 118 rfl rfl
theorem zw_359 : (Cond.laysFinal "ChequeredCloth" "ChequeredCloth" "counters" "LChequeredCloth$Counters;") ∈ zT := zT_of2 119 rfl rfl
theorem zw_361 : (Cond.laysFinal "ChequeredCloth" "ChequeredCloth" "chest" "LChequeredCloth$Chest;") ∈ zT := zT_of2 121 rfl rfl
theorem zw_363 : (Cond.laysFinal "ChequeredCloth" "ChequeredCloth" "reader" "LChequeredCloth$Reader;") ∈ zT := zT_of2 123 rfl rfl
theorem zw_365 : (Cond.laysFinal "ChequeredCloth" "ChequeredCloth" "acts" "LChequeredCloth$Acts;") ∈ zT := zT_of2 125 rfl rfl
theorem zw_367 : (Cond.laysFinal "ChequeredCloth" "ChequeredCloth" "audit" "LChequeredCloth$Audit;") ∈ zT := zT_of2 127 rfl rfl
theorem zw_369 : (Cond.lays "ChequeredCloth" "ChequeredCloth" "knownAt" "I") ∈ zT := zT_of2 129 rfl rfl
theorem zw_372 : (Cond.methodLink "ChequeredClothLaw" (13 : Nat) ({ cls := "ChequeredCloth", name := "feed", desc := "(IIIII)I" } : MethodName)) ∈ zT := zT_of2 132 rfl rfl
theorem zw_373 : (Cond.instanceMethod ({ cls := "ChequeredCloth", name := "feed", desc := "(IIIII)I" } : MethodName)) ∈ zT := zT_of2 133 rfl rfl
theorem zw_374 : (Cond.selects "ChequeredCloth" ({ cls := "ChequeredCloth", name := "feed", desc := "(IIIII)I" } : MethodName) ({ cls := "ChequeredCloth", name := "feed", desc := "(IIIII)I" } : MethodName)) ∈ zT := zT_of2 134 rfl rfl
theorem zw_375 : (Cond.code ({ cls := "ChequeredCloth", name := "feed", desc := "(IIIII)I" } : MethodName) prog_1_method_2_code (6 : Nat) (Option.some FieldType.int)) ∈ zT := zT_of2 135 rfl rfl
theorem zw_376 : (Cond.methodLink "ChequeredCloth" (50 : Nat) ({ cls := "ChequeredCloth$Reader", name := "hasRoom", desc := "()Z" } : MethodName)) ∈ zT := zT_of2 136 rfl rfl
theorem zw_377 : (Cond.instanceMethod ({ cls := "ChequeredCloth$Reader", name := "hasRoom", desc := "()Z" } : MethodName)) ∈ zT := zT_of2 137 rfl rfl
theorem zw_378 : (Cond.selects "ChequeredCloth$Reader" ({ cls := "ChequeredCloth$Reader", name := "hasRoom", desc := "()Z" } : MethodName) ({ cls := "ChequeredCloth$Reader", name := "hasRoom", desc := "()Z" } : MethodName)) ∈ zT := zT_of2 138 rfl rfl
theorem zw_379 : (Cond.code ({ cls := "ChequeredCloth$Reader", name := "hasRoom", desc := "()Z" } : MethodName) prog_9_method_2_code (1 : Nat) (Option.some FieldType.boolean)) ∈ zT := zT_of2 139 rfl rfl
theorem zw_380 : (Cond.methodLink "ChequeredCloth" (54 : Nat) ({ cls := "ChequeredCloth$Reader", name := "append", desc := "(I)I" } : MethodName)) ∈ zT := zT_of2 140 rfl rfl
theorem zw_381 : (Cond.instanceMethod ({ cls := "ChequeredCloth$Reader", name := "append", desc := "(I)I" } : MethodName)) ∈ zT := zT_of2 141 rfl rfl
theorem zw_382 : (Cond.selects "ChequeredCloth$Reader" ({ cls := "ChequeredCloth$Reader", name := "append", desc := "(I)I" } : MethodName) ({ cls := "ChequeredCloth$Reader", name := "append", desc := "(I)I" } : MethodName)) ∈ zT := zT_of2 142 rfl rfl
theorem zw_383 : (Cond.code ({ cls := "ChequeredCloth$Reader", name := "append", desc := "(I)I" } : MethodName) prog_9_method_3_code (3 : Nat) (Option.some FieldType.int)) ∈ zT := zT_of2 143 rfl rfl
theorem zw_384 : (Cond.methodLink "ChequeredClothLaw" (18 : Nat) ({ cls := "ChequeredCloth", name := "end", desc := "(I)Z" } : MethodName)) ∈ zT := zT_of2 144 rfl rfl
theorem zw_385 : (Cond.instanceMethod ({ cls := "ChequeredCloth", name := "end", desc := "(I)Z" } : MethodName)) ∈ zT := zT_of2 145 rfl rfl
theorem zw_386 : (Cond.selects "ChequeredCloth" ({ cls := "ChequeredCloth", name := "end", desc := "(I)Z" } : MethodName) ({ cls := "ChequeredCloth", name := "end", desc := "(I)Z" } : MethodName)) ∈ zT := zT_of2 146 rfl rfl
theorem zw_387 : (Cond.code ({ cls := "ChequeredCloth", name := "end", desc := "(I)Z" } : MethodName) prog_1_method_3_code (2 : Nat) (Option.some FieldType.boolean)) ∈ zT := zT_of2 147 rfl rfl
theorem zw_388 : (Cond.methodLink "ChequeredCloth" (58 : Nat) ({ cls := "ChequeredCloth$Reader", name := "shorten", desc := "(I)Z" } : MethodName)) ∈ zT := zT_of2 148 rfl rfl
theorem zw_389 : (Cond.instanceMethod ({ cls := "ChequeredCloth$Reader", name := "shorten", desc := "(I)Z" } : MethodName)) ∈ zT := zT_of2 149 rfl rfl
theorem zw_390 : (Cond.selects "ChequeredCloth$Reader" ({ cls := "ChequeredCloth$Reader", name := "shorten", desc := "(I)Z" } : MethodName) ({ cls := "ChequeredCloth$Reader", name := "shorten", desc := "(I)Z" } : MethodName)) ∈ zT := zT_of2 150 rfl rfl
theorem zw_391 : (Cond.code ({ cls := "ChequeredCloth$Reader", name := "shorten", desc := "(I)Z" } : MethodName) prog_9_method_4_code (2 : Nat) (Option.some FieldType.boolean)) ∈ zT := zT_of2 151 rfl rfl
theorem zw_392 : (Cond.methodLink "ChequeredClothLaw" (23 : Nat) ({ cls := "ChequeredCloth", name := "put", desc := "(II)Z" } : MethodName)) ∈ zT := zT_of2 152 rfl rfl
theorem zw_393 : (Cond.instanceMethod ({ cls := "ChequeredCloth", name := "put", desc := "(II)Z" } : MethodName)) ∈ zT := zT_of2 153 rfl rfl
theorem zw_394 : (Cond.selects "ChequeredCloth" ({ cls := "ChequeredCloth", name := "put", desc := "(II)Z" } : MethodName) ({ cls := "ChequeredCloth", name := "put", desc := "(II)Z" } : MethodName)) ∈ zT := zT_of2 154 rfl rfl
theorem zw_395 : (Cond.code ({ cls := "ChequeredCloth", name := "put", desc := "(II)Z" } : MethodName) prog_1_method_4_code (3 : Nat) (Option.some FieldType.boolean)) ∈ zT := zT_of2 155 rfl rfl
theorem zw_396 : (Cond.methodLink "ChequeredCloth" (62 : Nat) ({ cls := "ChequeredCloth$Counters", name := "set", desc := "(II)Z" } : MethodName)) ∈ zT := zT_of2 156 rfl rfl
theorem zw_397 : (Cond.instanceMethod ({ cls := "ChequeredCloth$Counters", name := "set", desc := "(II)Z" } : MethodName)) ∈ zT := zT_of2 157 rfl rfl
theorem zw_398 : (Cond.selects "ChequeredCloth$Counters" ({ cls := "ChequeredCloth$Counters", name := "set", desc := "(II)Z" } : MethodName) ({ cls := "ChequeredCloth$Counters", name := "set", desc := "(II)Z" } : MethodName)) ∈ zT := zT_of2 158 rfl rfl
theorem zw_399 : (Cond.code ({ cls := "ChequeredCloth$Counters", name := "set", desc := "(II)Z" } : MethodName) prog_5_method_2_code (3 : Nat) (Option.some FieldType.boolean)) ∈ zT := zT_of2 159 rfl rfl
theorem zw_400 : (Cond.methodLink "ChequeredCloth$Counters" (21 : Nat) ({ cls := "ChequeredCloth$Counters", name := "isPlace", desc := "(I)Z" } : MethodName)) ∈ zT := zT_of2 160 rfl rfl
theorem zw_401 : (Cond.static ({ cls := "ChequeredCloth$Counters", name := "isPlace", desc := "(I)Z" } : MethodName)) ∈ zT := zT_of2 161 rfl rfl
theorem zw_402 : (Cond.code ({ cls := "ChequeredCloth$Counters", name := "isPlace", desc := "(I)Z" } : MethodName) prog_5_method_10_code (1 : Nat) (Option.some FieldType.boolean)) ∈ zT := zT_of2 162 rfl rfl
theorem zw_403 : (Cond.methodLink "ChequeredClothLaw" (28 : Nat) ({ cls := "ChequeredCloth", name := "lies", desc := "(I)I" } : MethodName)) ∈ zT := zT_of2 163 rfl rfl
theorem zw_404 : (Cond.instanceMethod ({ cls := "ChequeredCloth", name := "lies", desc := "(I)I" } : MethodName)) ∈ zT := zT_of2 164 rfl rfl
theorem zw_405 : (Cond.selects "ChequeredCloth" ({ cls := "ChequeredCloth", name := "lies", desc := "(I)I" } : MethodName) ({ cls := "ChequeredCloth", name := "lies", desc := "(I)I" } : MethodName)) ∈ zT := zT_of2 165 rfl rfl
theorem zw_406 : (Cond.code ({ cls := "ChequeredCloth", name := "lies", desc := "(I)I" } : MethodName) prog_1_method_5_code (2 : Nat) (Option.some FieldType.int)) ∈ zT := zT_of2 166 rfl rfl
theorem zw_407 : (Cond.methodLink "ChequeredCloth" (66 : Nat) ({ cls := "ChequeredCloth$Counters", name := "countAt", desc := "(I)I" } : MethodName)) ∈ zT := zT_of2 167 rfl rfl
theorem zw_408 : (Cond.instanceMethod ({ cls := "ChequeredCloth$Counters", name := "countAt", desc := "(I)I" } : MethodName)) ∈ zT := zT_of2 168 rfl rfl
theorem zw_409 : (Cond.selects "ChequeredCloth$Counters" ({ cls := "ChequeredCloth$Counters", name := "countAt", desc := "(I)I" } : MethodName) ({ cls := "ChequeredCloth$Counters", name := "countAt", desc := "(I)I" } : MethodName)) ∈ zT := zT_of2 169 rfl rfl
theorem zw_410 : (Cond.code ({ cls := "ChequeredCloth$Counters", name := "countAt", desc := "(I)I" } : MethodName) prog_5_method_3_code (2 : Nat) (Option.some FieldType.int)) ∈ zT := zT_of2 170 rfl rfl
theorem zw_411 : (Cond.methodLink "ChequeredClothLaw" (33 : Nat) ({ cls := "ChequeredCloth", name := "worth", desc := "()J" } : MethodName)) ∈ zT := zT_of2 171 rfl rfl
theorem zw_412 : (Cond.instanceMethod ({ cls := "ChequeredCloth", name := "worth", desc := "()J" } : MethodName)) ∈ zT := zT_of2 172 rfl rfl
theorem zw_413 : (Cond.selects "ChequeredCloth" ({ cls := "ChequeredCloth", name := "worth", desc := "()J" } : MethodName) ({ cls := "ChequeredCloth", name := "worth", desc := "()J" } : MethodName)) ∈ zT := zT_of2 173 rfl rfl
theorem zw_414 : (Cond.code ({ cls := "ChequeredCloth", name := "worth", desc := "()J" } : MethodName) prog_1_method_6_code (1 : Nat) (Option.some FieldType.long)) ∈ zT := zT_of2 174 rfl rfl
theorem zw_415 : (Cond.methodLink "ChequeredCloth" (69 : Nat) ({ cls := "ChequeredCloth$Counters", name := "total", desc := "()J" } : MethodName)) ∈ zT := zT_of2 175 rfl rfl
theorem zw_416 : (Cond.instanceMethod ({ cls := "ChequeredCloth$Counters", name := "total", desc := "()J" } : MethodName)) ∈ zT := zT_of2 176 rfl rfl
theorem zw_417 : (Cond.selects "ChequeredCloth$Counters" ({ cls := "ChequeredCloth$Counters", name := "total", desc := "()J" } : MethodName) ({ cls := "ChequeredCloth$Counters", name := "total", desc := "()J" } : MethodName)) ∈ zT := zT_of2 177 rfl rfl
theorem zw_418 : (Cond.code ({ cls := "ChequeredCloth$Counters", name := "total", desc := "()J" } : MethodName) prog_5_method_4_code (4 : Nat) (Option.some FieldType.long)) ∈ zT := zT_of2 178 rfl rfl
theorem zw_419 : (Cond.fieldLink "ChequeredCloth$Counters" (25 : Nat) "ChequeredCloth$Counters" "WORTHS" "[I") ∈ zT := zT_of2 179 rfl rfl
theorem zw_421 : (Cond.methodLink "ChequeredClothLaw" (38 : Nat) ({ cls := "ChequeredCloth", name := "plain", desc := "(II)I" } : MethodName)) ∈ zT := zT_of2 181 rfl rfl
theorem zw_422 : (Cond.instanceMethod ({ cls := "ChequeredCloth", name := "plain", desc := "(II)I" } : MethodName)) ∈ zT := zT_of2 182 rfl rfl
theorem zw_423 : (Cond.selects "ChequeredCloth" ({ cls := "ChequeredCloth", name := "plain", desc := "(II)I" } : MethodName) ({ cls := "ChequeredCloth", name := "plain", desc := "(II)I" } : MethodName)) ∈ zT := zT_of2 183 rfl rfl
theorem zw_424 : (Cond.code ({ cls := "ChequeredCloth", name := "plain", desc := "(II)I" } : MethodName) prog_1_method_7_code (3 : Nat) (Option.some FieldType.int)) ∈ zT := zT_of2 184 rfl rfl
theorem zw_425 : (Cond.methodLink "ChequeredCloth" (73 : Nat) ({ cls := "ChequeredCloth$Counters", name := "plainAt", desc := "(II)I" } : MethodName)) ∈ zT := zT_of2 185 rfl rfl
theorem zw_426 : (Cond.instanceMethod ({ cls := "ChequeredCloth$Counters", name := "plainAt", desc := "(II)I" } : MethodName)) ∈ zT := zT_of2 186 rfl rfl
theorem zw_427 : (Cond.selects "ChequeredCloth$Counters" ({ cls := "ChequeredCloth$Counters", name := "plainAt", desc := "(II)I" } : MethodName) ({ cls := "ChequeredCloth$Counters", name := "plainAt", desc := "(II)I" } : MethodName)) ∈ zT := zT_of2 187 rfl rfl
theorem zw_428 : (Cond.code ({ cls := "ChequeredCloth$Counters", name := "plainAt", desc := "(II)I" } : MethodName) prog_5_method_5_code (3 : Nat) (Option.some FieldType.int)) ∈ zT := zT_of2 188 rfl rfl
theorem zw_429 : (Cond.methodLink "ChequeredCloth$Counters" (28 : Nat) ({ cls := "ChequeredCloth$Counters", name := "tellPlain", desc := "(I)Z" } : MethodName)) ∈ zT := zT_of2 189 rfl rfl
theorem zw_431 : (Cond.instanceMethod ({ cls := "ChequeredCloth$Counters", name := "tellPlain", desc := "(I)Z" } : MethodName)) ∈ zT := zT_of2 191 rfl rfl
theorem zw_432 : (Cond.code ({ cls := "ChequeredCloth$Counters", name := "tellPlain", desc := "(I)Z" } : MethodName) prog_5_method_11_code (4 : Nat) (Option.some FieldType.boolean)) ∈ zT := zT_of2 192 rfl rfl
theorem zw_433 : (Cond.constant "ChequeredCloth$Counters" (45 : Nat) (1000000000 : Int32)) ∈ zT := zT_of2 193 rfl rfl
theorem zw_434 : (Cond.methodLink "ChequeredClothLaw" (43 : Nat) ({ cls := "ChequeredCloth", name := "lay", desc := "(I)I" } : MethodName)) ∈ zT := zT_of2 194 rfl rfl
theorem zw_435 : (Cond.instanceMethod ({ cls := "ChequeredCloth", name := "lay", desc := "(I)I" } : MethodName)) ∈ zT := zT_of2 195 rfl rfl
theorem zw_436 : (Cond.selects "ChequeredCloth" ({ cls := "ChequeredCloth", name := "lay", desc := "(I)I" } : MethodName) ({ cls := "ChequeredCloth", name := "lay", desc := "(I)I" } : MethodName)) ∈ zT := zT_of2 196 rfl rfl
theorem zw_437 : (Cond.code ({ cls := "ChequeredCloth", name := "lay", desc := "(I)I" } : MethodName) prog_1_method_8_code (2 : Nat) (Option.some FieldType.int)) ∈ zT := zT_of2 197 rfl rfl
theorem zw_438 : (Cond.methodLink "ChequeredCloth" (77 : Nat) ({ cls := "ChequeredCloth$Counters", name := "add", desc := "(I)I" } : MethodName)) ∈ zT := zT_of2 198 rfl rfl
theorem zw_439 : (Cond.instanceMethod ({ cls := "ChequeredCloth$Counters", name := "add", desc := "(I)I" } : MethodName)) ∈ zT := zT_of2 199 rfl rfl
theorem zw_440 : (Cond.selects "ChequeredCloth$Counters" ({ cls := "ChequeredCloth$Counters", name := "add", desc := "(I)I" } : MethodName) ({ cls := "ChequeredCloth$Counters", name := "add", desc := "(I)I" } : MethodName)) ∈ zT := zT_of2 200 rfl rfl
theorem zw_441 : (Cond.code ({ cls := "ChequeredCloth$Counters", name := "add", desc := "(I)I" } : MethodName) prog_5_method_6_code (3 : Nat) (Option.some FieldType.int)) ∈ zT := zT_of2 201 rfl rfl
theorem zw_442 : (Cond.methodLink "ChequeredCloth$Counters" (31 : Nat) ({ cls := "ChequeredCloth$Counters", name := "changeUpward", desc := "()I" } : MethodName)) ∈ zT := zT_of2 202 rfl rfl
theorem zw_444 : (Cond.instanceMethod ({ cls := "ChequeredCloth$Counters", name := "changeUpward", desc := "()I" } : MethodName)) ∈ zT := zT_of2 204 rfl rfl
theorem zw_445 : (Cond.code ({ cls := "ChequeredCloth$Counters", name := "changeUpward", desc := "()I" } : MethodName) prog_5_method_12_code (4 : Nat) (Option.some FieldType.int)) ∈ zT := zT_of2 205 rfl rfl
theorem zw_446 : (Cond.fieldLink "ChequeredCloth$Counters" (46 : Nat) "ChequeredCloth$Counters" "RATIOS" "[I") ∈ zT := zT_of2 206 rfl rfl
theorem zw_448 : (Cond.methodLink "ChequeredCloth$Counters" (35 : Nat) ({ cls := "java/lang/System", name := "arraycopy", desc := "(Ljava/lang/Object;ILjava/lang/Object;II)V" } : MethodName)) ∈ zT := zT_of2 208 rfl rfl
theorem zw_449 : (Cond.static ({ cls := "java/lang/System", name := "arraycopy", desc := "(Ljava/lang/Object;ILjava/lang/Object;II)V" } : MethodName)) ∈ zT := zT_of2 209 rfl rfl
theorem zw_450 : (Cond.native ({ cls := "java/lang/System", name := "arraycopy", desc := "(Ljava/lang/Object;ILjava/lang/Object;II)V" } : MethodName)) ∈ zT := zT_of2 210 rfl rfl
theorem zw_451 : (Cond.methodLink "ChequeredClothLaw" (47 : Nat) ({ cls := "ChequeredCloth", name := "draw", desc := "(I)I" } : MethodName)) ∈ zT := zT_of2 211 rfl rfl
theorem zw_452 : (Cond.instanceMethod ({ cls := "ChequeredCloth", name := "draw", desc := "(I)I" } : MethodName)) ∈ zT := zT_of2 212 rfl rfl
theorem zw_453 : (Cond.selects "ChequeredCloth" ({ cls := "ChequeredCloth", name := "draw", desc := "(I)I" } : MethodName) ({ cls := "ChequeredCloth", name := "draw", desc := "(I)I" } : MethodName)) ∈ zT := zT_of2 213 rfl rfl
theorem zw_454 : (Cond.code ({ cls := "ChequeredCloth", name := "draw", desc := "(I)I" } : MethodName) prog_1_method_9_code (2 : Nat) (Option.some FieldType.int)) ∈ zT := zT_of2 214 rfl rfl
theorem zw_455 : (Cond.methodLink "ChequeredCloth" (80 : Nat) ({ cls := "ChequeredCloth$Counters", name := "take", desc := "(I)I" } : MethodName)) ∈ zT := zT_of2 215 rfl rfl
theorem zw_456 : (Cond.instanceMethod ({ cls := "ChequeredCloth$Counters", name := "take", desc := "(I)I" } : MethodName)) ∈ zT := zT_of2 216 rfl rfl
theorem zw_457 : (Cond.selects "ChequeredCloth$Counters" ({ cls := "ChequeredCloth$Counters", name := "take", desc := "(I)I" } : MethodName) ({ cls := "ChequeredCloth$Counters", name := "take", desc := "(I)I" } : MethodName)) ∈ zT := zT_of2 217 rfl rfl
theorem zw_458 : (Cond.code ({ cls := "ChequeredCloth$Counters", name := "take", desc := "(I)I" } : MethodName) prog_5_method_7_code (5 : Nat) (Option.some FieldType.int)) ∈ zT := zT_of2 218 rfl rfl
theorem zw_459 : (Cond.methodLink "ChequeredCloth$Counters" (41 : Nat) ({ cls := "ChequeredCloth$Counters", name := "breakInto", desc := "(I)I" } : MethodName)) ∈ zT := zT_of2 219 rfl rfl
theorem zw_461 : (Cond.instanceMethod ({ cls := "ChequeredCloth$Counters", name := "breakInto", desc := "(I)I" } : MethodName)) ∈ zT := zT_of2 221 rfl rfl
theorem zw_462 : (Cond.code ({ cls := "ChequeredCloth$Counters", name := "breakInto", desc := "(I)I" } : MethodName) prog_5_method_13_code (4 : Nat) (Option.some FieldType.int)) ∈ zT := zT_of2 222 rfl rfl
theorem zw_463 : (Cond.methodLink "ChequeredClothLaw" (51 : Nat) ({ cls := "ChequeredCloth", name := "steps", desc := "(I)I" } : MethodName)) ∈ zT := zT_of2 223 rfl rfl
theorem zw_464 : (Cond.instanceMethod ({ cls := "ChequeredCloth", name := "steps", desc := "(I)I" } : MethodName)) ∈ zT := zT_of2 224 rfl rfl
theorem zw_465 : (Cond.selects "ChequeredCloth" ({ cls := "ChequeredCloth", name := "steps", desc := "(I)I" } : MethodName) ({ cls := "ChequeredCloth", name := "steps", desc := "(I)I" } : MethodName)) ∈ zT := zT_of2 225 rfl rfl
theorem zw_466 : (Cond.code ({ cls := "ChequeredCloth", name := "steps", desc := "(I)I" } : MethodName) prog_1_method_10_code (2 : Nat) (Option.some FieldType.int)) ∈ zT := zT_of2 226 rfl rfl
theorem zw_467 : (Cond.methodLink "ChequeredCloth" (83 : Nat) ({ cls := "ChequeredCloth$Counters", name := "fewestSteps", desc := "(I)I" } : MethodName)) ∈ zT := zT_of2 227 rfl rfl
theorem zw_468 : (Cond.instanceMethod ({ cls := "ChequeredCloth$Counters", name := "fewestSteps", desc := "(I)I" } : MethodName)) ∈ zT := zT_of2 228 rfl rfl
theorem zw_469 : (Cond.selects "ChequeredCloth$Counters" ({ cls := "ChequeredCloth$Counters", name := "fewestSteps", desc := "(I)I" } : MethodName) ({ cls := "ChequeredCloth$Counters", name := "fewestSteps", desc := "(I)I" } : MethodName)) ∈ zT := zT_of2 229 rfl rfl
theorem zw_470 : (Cond.code ({ cls := "ChequeredCloth$Counters", name := "fewestSteps", desc := "(I)I" } : MethodName) prog_5_method_8_code (11 : Nat) (Option.some FieldType.int)) ∈ zT := zT_of2 230 rfl rfl
theorem zw_471 : (Cond.methodLink "ChequeredCloth$Counters" (49 : Nat) ({ cls := "java/lang/Math", name := "floorDiv", desc := "(II)I" } : MethodName)) ∈ zT := zT_of2 231 rfl rfl
theorem zw_472 : (Cond.static ({ cls := "java/lang/Math", name := "floorDiv", desc := "(II)I" } : MethodName)) ∈ zT := zT_of2 232 rfl rfl
theorem zw_473 : (Cond.code ({ cls := "java/lang/Math", name := "floorDiv", desc := "(II)I" } : MethodName) prog_16_method_47_code (3 : Nat) (Option.some FieldType.int)) ∈ zT := zT_of2 233 rfl rfl
theorem zw_474 : (Cond.methodLink "ChequeredCloth$Counters" (55 : Nat) ({ cls := "ChequeredCloth$Counters", name := "cheaper", desc := "(IIII)I" } : MethodName)) ∈ zT := zT_of2 234 rfl rfl
theorem zw_475 : (Cond.static ({ cls := "ChequeredCloth$Counters", name := "cheaper", desc := "(IIII)I" } : MethodName)) ∈ zT := zT_of2 235 rfl rfl
theorem zw_476 : (Cond.code ({ cls := "ChequeredCloth$Counters", name := "cheaper", desc := "(IIII)I" } : MethodName) prog_5_method_9_code (4 : Nat) (Option.some FieldType.int)) ∈ zT := zT_of2 236 rfl rfl
theorem zw_477 : (Cond.methodLink "ChequeredCloth$Counters" (59 : Nat) ({ cls := "java/lang/Math", name := "abs", desc := "(I)I" } : MethodName)) ∈ zT := zT_of2 237 rfl rfl
theorem zw_478 : (Cond.static ({ cls := "java/lang/Math", name := "abs", desc := "(I)I" } : MethodName)) ∈ zT := zT_of2 238 rfl rfl
theorem zw_479 : (Cond.code ({ cls := "java/lang/Math", name := "abs", desc := "(I)I" } : MethodName) prog_16_method_59_code (1 : Nat) (Option.some FieldType.int)) ∈ zT := zT_of2 239 rfl rfl
theorem zw_480 : (Cond.methodLink "ChequeredCloth$Counters" (62 : Nat) ({ cls := "java/lang/Math", name := "min", desc := "(II)I" } : MethodName)) ∈ zT := zT_of3 0 rfl rfl
theorem zw_481 : (Cond.static ({ cls := "java/lang/Math", name := "min", desc := "(II)I" } : MethodName)) ∈ zT := zT_of3 1 rfl rfl
theorem zw_482 : (Cond.code ({ cls := "java/lang/Math", name := "min", desc := "(II)I" } : MethodName) prog_16_method_69_code (2 : Nat) (Option.some FieldType.int)) ∈ zT := zT_of3 2 rfl rfl
theorem zw_483 : (Cond.methodLink "ChequeredClothLaw" (55 : Nat) ({ cls := "ChequeredCloth", name := "cut", desc := "(ZIII)I" } : MethodName)) ∈ zT := zT_of3 3 rfl rfl
theorem zw_484 : (Cond.instanceMethod ({ cls := "ChequeredCloth", name := "cut", desc := "(ZIII)I" } : MethodName)) ∈ zT := zT_of3 4 rfl rfl
theorem zw_485 : (Cond.selects "ChequeredCloth" ({ cls := "ChequeredCloth", name := "cut", desc := "(ZIII)I" } : MethodName) ({ cls := "ChequeredCloth", name := "cut", desc := "(ZIII)I" } : MethodName)) ∈ zT := zT_of3 5 rfl rfl
theorem zw_486 : (Cond.code ({ cls := "ChequeredCloth", name := "cut", desc := "(ZIII)I" } : MethodName) prog_1_method_11_code (5 : Nat) (Option.some FieldType.int)) ∈ zT := zT_of3 6 rfl rfl
theorem zw_487 : (Cond.methodLink "ChequeredCloth" (86 : Nat) ({ cls := "ChequeredCloth", name := "isStick", desc := "(I)Z" } : MethodName)) ∈ zT := zT_of3 7 rfl rfl
theorem zw_488 : (Cond.static ({ cls := "ChequeredCloth", name := "isStick", desc := "(I)Z" } : MethodName)) ∈ zT := zT_of3 8 rfl rfl
theorem zw_489 : (Cond.code ({ cls := "ChequeredCloth", name := "isStick", desc := "(I)Z" } : MethodName) prog_1_method_35_code (1 : Nat) (Option.some FieldType.boolean)) ∈ zT := zT_of3 9 rfl rfl
theorem zw_490 : (Cond.methodLink "ChequeredCloth" (89 : Nat) ({ cls := "ChequeredCloth", name := "half", desc := "(ZI)I" } : MethodName)) ∈ zT := zT_of3 10 rfl rfl
theorem zw_491 : (Cond.static ({ cls := "ChequeredCloth", name := "half", desc := "(ZI)I" } : MethodName)) ∈ zT := zT_of3 11 rfl rfl
theorem zw_492 : (Cond.code ({ cls := "ChequeredCloth", name := "half", desc := "(ZI)I" } : MethodName) prog_1_method_36_code (2 : Nat) (Option.some FieldType.int)) ∈ zT := zT_of3 12 rfl rfl
theorem zw_493 : (Cond.methodLink "ChequeredCloth" (93 : Nat) ({ cls := "ChequeredCloth$Chest", name := "addCut", desc := "(III)I" } : MethodName)) ∈ zT := zT_of3 13 rfl rfl
theorem zw_494 : (Cond.instanceMethod ({ cls := "ChequeredCloth$Chest", name := "addCut", desc := "(III)I" } : MethodName)) ∈ zT := zT_of3 14 rfl rfl
theorem zw_495 : (Cond.selects "ChequeredCloth$Chest" ({ cls := "ChequeredCloth$Chest", name := "addCut", desc := "(III)I" } : MethodName) ({ cls := "ChequeredCloth$Chest", name := "addCut", desc := "(III)I" } : MethodName)) ∈ zT := zT_of3 15 rfl rfl
theorem zw_496 : (Cond.code ({ cls := "ChequeredCloth$Chest", name := "addCut", desc := "(III)I" } : MethodName) prog_4_method_2_code (6 : Nat) (Option.some FieldType.int)) ∈ zT := zT_of3 16 rfl rfl
theorem zw_497 : (Cond.methodLink "ChequeredCloth$Chest" (56 : Nat) ({ cls := "ChequeredCloth$Chest", name := "isHalf", desc := "(I)Z" } : MethodName)) ∈ zT := zT_of3 17 rfl rfl
theorem zw_498 : (Cond.static ({ cls := "ChequeredCloth$Chest", name := "isHalf", desc := "(I)Z" } : MethodName)) ∈ zT := zT_of3 18 rfl rfl
theorem zw_499 : (Cond.code ({ cls := "ChequeredCloth$Chest", name := "isHalf", desc := "(I)Z" } : MethodName) prog_4_method_12_code (1 : Nat) (Option.some FieldType.boolean)) ∈ zT := zT_of3 19 rfl rfl
theorem zw_500 : (Cond.fieldLink "ChequeredCloth$Chest" (60 : Nat) "ChequeredCloth$Chest" "WORTHS" "[I") ∈ zT := zT_of3 20 rfl rfl
theorem zw_502 : (Cond.methodLink "ChequeredCloth$Chest" (63 : Nat) ({ cls := "ChequeredCloth$Chest", name := "forget", desc := "(I)V" } : MethodName)) ∈ zT := zT_of3 22 rfl rfl
theorem zw_504 : (Cond.instanceMethod ({ cls := "ChequeredCloth$Chest", name := "forget", desc := "(I)V" } : MethodName)) ∈ zT := zT_of3 24 rfl rfl
theorem zw_505 : (Cond.code ({ cls := "ChequeredCloth$Chest", name := "forget", desc := "(I)V" } : MethodName) prog_4_method_14_code (3 : Nat) (Option.none : Option FieldType)) ∈ zT := zT_of3 25 rfl rfl
theorem zw_506 : (Cond.methodLink "ChequeredClothLaw" (60 : Nat) ({ cls := "ChequeredCloth", name := "burn", desc := "(ZI)Z" } : MethodName)) ∈ zT := zT_of3 26 rfl rfl
theorem zw_507 : (Cond.instanceMethod ({ cls := "ChequeredCloth", name := "burn", desc := "(ZI)Z" } : MethodName)) ∈ zT := zT_of3 27 rfl rfl
theorem zw_508 : (Cond.selects "ChequeredCloth" ({ cls := "ChequeredCloth", name := "burn", desc := "(ZI)Z" } : MethodName) ({ cls := "ChequeredCloth", name := "burn", desc := "(ZI)Z" } : MethodName)) ∈ zT := zT_of3 28 rfl rfl
theorem zw_509 : (Cond.code ({ cls := "ChequeredCloth", name := "burn", desc := "(ZI)Z" } : MethodName) prog_1_method_12_code (3 : Nat) (Option.some FieldType.boolean)) ∈ zT := zT_of3 29 rfl rfl
theorem zw_510 : (Cond.methodLink "ChequeredCloth" (97 : Nat) ({ cls := "ChequeredCloth$Chest", name := "clear", desc := "(I)Z" } : MethodName)) ∈ zT := zT_of3 30 rfl rfl
theorem zw_511 : (Cond.instanceMethod ({ cls := "ChequeredCloth$Chest", name := "clear", desc := "(I)Z" } : MethodName)) ∈ zT := zT_of3 31 rfl rfl
theorem zw_512 : (Cond.selects "ChequeredCloth$Chest" ({ cls := "ChequeredCloth$Chest", name := "clear", desc := "(I)Z" } : MethodName) ({ cls := "ChequeredCloth$Chest", name := "clear", desc := "(I)Z" } : MethodName)) ∈ zT := zT_of3 32 rfl rfl
theorem zw_513 : (Cond.code ({ cls := "ChequeredCloth$Chest", name := "clear", desc := "(I)Z" } : MethodName) prog_4_method_3_code (2 : Nat) (Option.some FieldType.boolean)) ∈ zT := zT_of3 33 rfl rfl
theorem zw_514 : (Cond.methodLink "ChequeredCloth$Chest" (67 : Nat) ({ cls := "ChequeredCloth$Chest", name := "isThere", desc := "(I)Z" } : MethodName)) ∈ zT := zT_of3 34 rfl rfl
theorem zw_516 : (Cond.instanceMethod ({ cls := "ChequeredCloth$Chest", name := "isThere", desc := "(I)Z" } : MethodName)) ∈ zT := zT_of3 36 rfl rfl
theorem zw_517 : (Cond.code ({ cls := "ChequeredCloth$Chest", name := "isThere", desc := "(I)Z" } : MethodName) prog_4_method_13_code (2 : Nat) (Option.some FieldType.boolean)) ∈ zT := zT_of3 37 rfl rfl
theorem zw_518 : (Cond.methodLink "ChequeredClothLaw" (65 : Nat) ({ cls := "ChequeredCloth", name := "sum", desc := "(ZI)I" } : MethodName)) ∈ zT := zT_of3 38 rfl rfl
theorem zw_519 : (Cond.instanceMethod ({ cls := "ChequeredCloth", name := "sum", desc := "(ZI)I" } : MethodName)) ∈ zT := zT_of3 39 rfl rfl
theorem zw_520 : (Cond.selects "ChequeredCloth" ({ cls := "ChequeredCloth", name := "sum", desc := "(ZI)I" } : MethodName) ({ cls := "ChequeredCloth", name := "sum", desc := "(ZI)I" } : MethodName)) ∈ zT := zT_of3 40 rfl rfl
theorem zw_521 : (Cond.code ({ cls := "ChequeredCloth", name := "sum", desc := "(ZI)I" } : MethodName) prog_1_method_13_code (3 : Nat) (Option.some FieldType.int)) ∈ zT := zT_of3 41 rfl rfl
theorem zw_522 : (Cond.methodLink "ChequeredCloth" (100 : Nat) ({ cls := "ChequeredCloth$Chest", name := "worthOf", desc := "(I)I" } : MethodName)) ∈ zT := zT_of3 42 rfl rfl
theorem zw_523 : (Cond.instanceMethod ({ cls := "ChequeredCloth$Chest", name := "worthOf", desc := "(I)I" } : MethodName)) ∈ zT := zT_of3 43 rfl rfl
theorem zw_524 : (Cond.selects "ChequeredCloth$Chest" ({ cls := "ChequeredCloth$Chest", name := "worthOf", desc := "(I)I" } : MethodName) ({ cls := "ChequeredCloth$Chest", name := "worthOf", desc := "(I)I" } : MethodName)) ∈ zT := zT_of3 44 rfl rfl
theorem zw_525 : (Cond.code ({ cls := "ChequeredCloth$Chest", name := "worthOf", desc := "(I)I" } : MethodName) prog_4_method_4_code (4 : Nat) (Option.some FieldType.int)) ∈ zT := zT_of3 45 rfl rfl
theorem zw_526 : (Cond.methodLink "ChequeredClothLaw" (70 : Nat) ({ cls := "ChequeredCloth", name := "wear", desc := "(III)Z" } : MethodName)) ∈ zT := zT_of3 46 rfl rfl
theorem zw_527 : (Cond.instanceMethod ({ cls := "ChequeredCloth", name := "wear", desc := "(III)Z" } : MethodName)) ∈ zT := zT_of3 47 rfl rfl
theorem zw_528 : (Cond.selects "ChequeredCloth" ({ cls := "ChequeredCloth", name := "wear", desc := "(III)Z" } : MethodName) ({ cls := "ChequeredCloth", name := "wear", desc := "(III)Z" } : MethodName)) ∈ zT := zT_of3 48 rfl rfl
theorem zw_529 : (Cond.code ({ cls := "ChequeredCloth", name := "wear", desc := "(III)Z" } : MethodName) prog_1_method_14_code (4 : Nat) (Option.some FieldType.boolean)) ∈ zT := zT_of3 49 rfl rfl
theorem zw_530 : (Cond.methodLink "ChequeredCloth" (103 : Nat) ({ cls := "ChequeredCloth$Chest", name := "setWear", desc := "(III)Z" } : MethodName)) ∈ zT := zT_of3 50 rfl rfl
theorem zw_531 : (Cond.instanceMethod ({ cls := "ChequeredCloth$Chest", name := "setWear", desc := "(III)Z" } : MethodName)) ∈ zT := zT_of3 51 rfl rfl
theorem zw_532 : (Cond.selects "ChequeredCloth$Chest" ({ cls := "ChequeredCloth$Chest", name := "setWear", desc := "(III)Z" } : MethodName) ({ cls := "ChequeredCloth$Chest", name := "setWear", desc := "(III)Z" } : MethodName)) ∈ zT := zT_of3 52 rfl rfl
theorem zw_533 : (Cond.code ({ cls := "ChequeredCloth$Chest", name := "setWear", desc := "(III)Z" } : MethodName) prog_4_method_5_code (4 : Nat) (Option.some FieldType.boolean)) ∈ zT := zT_of3 53 rfl rfl
theorem zw_534 : (Cond.methodLink "ChequeredClothLaw" (75 : Nat) ({ cls := "ChequeredCloth", name := "fit", desc := "(II)I" } : MethodName)) ∈ zT := zT_of3 54 rfl rfl
theorem zw_535 : (Cond.instanceMethod ({ cls := "ChequeredCloth", name := "fit", desc := "(II)I" } : MethodName)) ∈ zT := zT_of3 55 rfl rfl
theorem zw_536 : (Cond.selects "ChequeredCloth" ({ cls := "ChequeredCloth", name := "fit", desc := "(II)I" } : MethodName) ({ cls := "ChequeredCloth", name := "fit", desc := "(II)I" } : MethodName)) ∈ zT := zT_of3 56 rfl rfl
theorem zw_537 : (Cond.code ({ cls := "ChequeredCloth", name := "fit", desc := "(II)I" } : MethodName) prog_1_method_15_code (3 : Nat) (Option.some FieldType.int)) ∈ zT := zT_of3 57 rfl rfl
theorem zw_538 : (Cond.methodLink "ChequeredCloth" (107 : Nat) ({ cls := "ChequeredCloth$Chest", name := "fitOf", desc := "(II)I" } : MethodName)) ∈ zT := zT_of3 58 rfl rfl
theorem zw_539 : (Cond.instanceMethod ({ cls := "ChequeredCloth$Chest", name := "fitOf", desc := "(II)I" } : MethodName)) ∈ zT := zT_of3 59 rfl rfl
theorem zw_540 : (Cond.selects "ChequeredCloth$Chest" ({ cls := "ChequeredCloth$Chest", name := "fitOf", desc := "(II)I" } : MethodName) ({ cls := "ChequeredCloth$Chest", name := "fitOf", desc := "(II)I" } : MethodName)) ∈ zT := zT_of3 60 rfl rfl
theorem zw_541 : (Cond.code ({ cls := "ChequeredCloth$Chest", name := "fitOf", desc := "(II)I" } : MethodName) prog_4_method_6_code (4 : Nat) (Option.some FieldType.int)) ∈ zT := zT_of3 61 rfl rfl
theorem zw_543 : (Cond.methodLink "ChequeredCloth$Chest" (80 : Nat) ({ cls := "ChequeredCloth$Chest", name := "leastCost", desc := "(II)I" } : MethodName)) ∈ zT := zT_of3 63 rfl rfl
theorem zw_545 : (Cond.instanceMethod ({ cls := "ChequeredCloth$Chest", name := "leastCost", desc := "(II)I" } : MethodName)) ∈ zT := zT_of3 65 rfl rfl
theorem zw_546 : (Cond.code ({ cls := "ChequeredCloth$Chest", name := "leastCost", desc := "(II)I" } : MethodName) prog_4_method_15_code (7 : Nat) (Option.some FieldType.int)) ∈ zT := zT_of3 66 rfl rfl
theorem zw_547 : (Cond.methodLink "ChequeredCloth$Chest" (94 : Nat) ({ cls := "java/lang/System", name := "arraycopy", desc := "(Ljava/lang/Object;ILjava/lang/Object;II)V" } : MethodName)) ∈ zT := zT_of3 67 rfl rfl
theorem zw_548 : (Cond.methodLink "ChequeredCloth$Chest" (100 : Nat) ({ cls := "java/lang/Math", name := "min", desc := "(II)I" } : MethodName)) ∈ zT := zT_of3 68 rfl rfl
theorem zw_549 : (Cond.methodLink "ChequeredCloth$Chest" (105 : Nat) ({ cls := "ChequeredCloth$Chest", name := "pairCost", desc := "(II)I" } : MethodName)) ∈ zT := zT_of3 69 rfl rfl
theorem zw_551 : (Cond.instanceMethod ({ cls := "ChequeredCloth$Chest", name := "pairCost", desc := "(II)I" } : MethodName)) ∈ zT := zT_of3 71 rfl rfl
theorem zw_552 : (Cond.code ({ cls := "ChequeredCloth$Chest", name := "pairCost", desc := "(II)I" } : MethodName) prog_4_method_16_code (4 : Nat) (Option.some FieldType.int)) ∈ zT := zT_of3 72 rfl rfl
theorem zw_553 : (Cond.methodLink "ChequeredCloth$Chest" (108 : Nat) ({ cls := "java/lang/Math", name := "abs", desc := "(I)I" } : MethodName)) ∈ zT := zT_of3 73 rfl rfl
theorem zw_554 : (Cond.methodLink "ChequeredClothLaw" (79 : Nat) ({ cls := "ChequeredCloth", name := "mate", desc := "(I)I" } : MethodName)) ∈ zT := zT_of3 74 rfl rfl
theorem zw_555 : (Cond.instanceMethod ({ cls := "ChequeredCloth", name := "mate", desc := "(I)I" } : MethodName)) ∈ zT := zT_of3 75 rfl rfl
theorem zw_556 : (Cond.selects "ChequeredCloth" ({ cls := "ChequeredCloth", name := "mate", desc := "(I)I" } : MethodName) ({ cls := "ChequeredCloth", name := "mate", desc := "(I)I" } : MethodName)) ∈ zT := zT_of3 76 rfl rfl
theorem zw_557 : (Cond.code ({ cls := "ChequeredCloth", name := "mate", desc := "(I)I" } : MethodName) prog_1_method_16_code (2 : Nat) (Option.some FieldType.int)) ∈ zT := zT_of3 77 rfl rfl
theorem zw_558 : (Cond.methodLink "ChequeredCloth" (110 : Nat) ({ cls := "ChequeredCloth$Chest", name := "mateOf", desc := "(I)I" } : MethodName)) ∈ zT := zT_of3 78 rfl rfl
theorem zw_559 : (Cond.instanceMethod ({ cls := "ChequeredCloth$Chest", name := "mateOf", desc := "(I)I" } : MethodName)) ∈ zT := zT_of3 79 rfl rfl
theorem zw_560 : (Cond.selects "ChequeredCloth$Chest" ({ cls := "ChequeredCloth$Chest", name := "mateOf", desc := "(I)I" } : MethodName) ({ cls := "ChequeredCloth$Chest", name := "mateOf", desc := "(I)I" } : MethodName)) ∈ zT := zT_of3 80 rfl rfl
theorem zw_561 : (Cond.code ({ cls := "ChequeredCloth$Chest", name := "mateOf", desc := "(I)I" } : MethodName) prog_4_method_7_code (2 : Nat) (Option.some FieldType.int)) ∈ zT := zT_of3 81 rfl rfl
theorem zw_562 : (Cond.methodLink "ChequeredCloth$Chest" (84 : Nat) ({ cls := "ChequeredCloth$Chest", name := "matchAll", desc := "()V" } : MethodName)) ∈ zT := zT_of3 82 rfl rfl
theorem zw_563 : (Cond.instanceMethod ({ cls := "ChequeredCloth$Chest", name := "matchAll", desc := "()V" } : MethodName)) ∈ zT := zT_of3 83 rfl rfl
theorem zw_564 : (Cond.selects "ChequeredCloth$Chest" ({ cls := "ChequeredCloth$Chest", name := "matchAll", desc := "()V" } : MethodName) ({ cls := "ChequeredCloth$Chest", name := "matchAll", desc := "()V" } : MethodName)) ∈ zT := zT_of3 84 rfl rfl
theorem zw_565 : (Cond.code ({ cls := "ChequeredCloth$Chest", name := "matchAll", desc := "()V" } : MethodName) prog_4_method_18_code (4 : Nat) (Option.none : Option FieldType)) ∈ zT := zT_of3 85 rfl rfl
theorem zw_566 : (Cond.methodLink "ChequeredCloth$Chest" (111 : Nat) ({ cls := "ChequeredCloth$Matcher", name := "begin", desc := "()V" } : MethodName)) ∈ zT := zT_of3 86 rfl rfl
theorem zw_567 : (Cond.instanceMethod ({ cls := "ChequeredCloth$Matcher", name := "begin", desc := "()V" } : MethodName)) ∈ zT := zT_of3 87 rfl rfl
theorem zw_568 : (Cond.selects "ChequeredCloth$Matcher" ({ cls := "ChequeredCloth$Matcher", name := "begin", desc := "()V" } : MethodName) ({ cls := "ChequeredCloth$Matcher", name := "begin", desc := "()V" } : MethodName)) ∈ zT := zT_of3 88 rfl rfl
theorem zw_569 : (Cond.code ({ cls := "ChequeredCloth$Matcher", name := "begin", desc := "()V" } : MethodName) prog_8_method_2_code (2 : Nat) (Option.none : Option FieldType)) ∈ zT := zT_of3 89 rfl rfl
theorem zw_570 : (Cond.methodLink "ChequeredCloth$Matcher" (40 : Nat) ({ cls := "java/util/Arrays", name := "fill", desc := "([JJ)V" } : MethodName)) ∈ zT := zT_of3 90 rfl rfl
theorem zw_571 : (Cond.static ({ cls := "java/util/Arrays", name := "fill", desc := "([JJ)V" } : MethodName)) ∈ zT := zT_of3 91 rfl rfl
theorem zw_572 : (Cond.code ({ cls := "java/util/Arrays", name := "fill", desc := "([JJ)V" } : MethodName) prog_21_method_101_code (5 : Nat) (Option.none : Option FieldType)) ∈ zT := zT_of3 92 rfl rfl
theorem zw_573 : (Cond.methodLink "ChequeredCloth$Matcher" (46 : Nat) ({ cls := "java/util/Arrays", name := "fill", desc := "([II)V" } : MethodName)) ∈ zT := zT_of3 93 rfl rfl
theorem zw_574 : (Cond.methodLink "ChequeredCloth$Chest" (91 : Nat) ({ cls := "ChequeredCloth$Chest", name := "fitOf", desc := "(II)I" } : MethodName)) ∈ zT := zT_of3 94 rfl rfl
theorem zw_575 : (Cond.methodLink "ChequeredCloth$Chest" (114 : Nat) ({ cls := "ChequeredCloth$Matcher", name := "allow", desc := "(III)V" } : MethodName)) ∈ zT := zT_of3 95 rfl rfl
theorem zw_576 : (Cond.instanceMethod ({ cls := "ChequeredCloth$Matcher", name := "allow", desc := "(III)V" } : MethodName)) ∈ zT := zT_of3 96 rfl rfl
theorem zw_577 : (Cond.selects "ChequeredCloth$Matcher" ({ cls := "ChequeredCloth$Matcher", name := "allow", desc := "(III)V" } : MethodName) ({ cls := "ChequeredCloth$Matcher", name := "allow", desc := "(III)V" } : MethodName)) ∈ zT := zT_of3 97 rfl rfl
theorem zw_578 : (Cond.code ({ cls := "ChequeredCloth$Matcher", name := "allow", desc := "(III)V" } : MethodName) prog_8_method_3_code (7 : Nat) (Option.none : Option FieldType)) ∈ zT := zT_of3 98 rfl rfl
theorem zw_580 : (Cond.constantLong "ChequeredCloth$Matcher" (53 : Nat) (11 : Int64)) ∈ zT := zT_of3 100 rfl rfl
theorem zw_581 : (Cond.constantLong "ChequeredCloth$Matcher" (55 : Nat) (25937424601 : Int64)) ∈ zT := zT_of3 101 rfl rfl
theorem zw_582 : (Cond.constantLong "ChequeredCloth$Matcher" (57 : Nat) (129738997854202 : Int64)) ∈ zT := zT_of3 102 rfl rfl
theorem zw_583 : (Cond.methodLink "ChequeredCloth$Chest" (118 : Nat) ({ cls := "ChequeredCloth$Matcher", name := "solve", desc := "()V" } : MethodName)) ∈ zT := zT_of3 103 rfl rfl
theorem zw_584 : (Cond.instanceMethod ({ cls := "ChequeredCloth$Matcher", name := "solve", desc := "()V" } : MethodName)) ∈ zT := zT_of3 104 rfl rfl
theorem zw_585 : (Cond.selects "ChequeredCloth$Matcher" ({ cls := "ChequeredCloth$Matcher", name := "solve", desc := "()V" } : MethodName) ({ cls := "ChequeredCloth$Matcher", name := "solve", desc := "()V" } : MethodName)) ∈ zT := zT_of3 105 rfl rfl
theorem zw_586 : (Cond.code ({ cls := "ChequeredCloth$Matcher", name := "solve", desc := "()V" } : MethodName) prog_8_method_4_code (3 : Nat) (Option.none : Option FieldType)) ∈ zT := zT_of3 106 rfl rfl
theorem zw_587 : (Cond.methodLink "ChequeredCloth$Matcher" (59 : Nat) ({ cls := "ChequeredCloth$Matcher", name := "freeColumnFor", desc := "(I)I" } : MethodName)) ∈ zT := zT_of3 107 rfl rfl
theorem zw_589 : (Cond.instanceMethod ({ cls := "ChequeredCloth$Matcher", name := "freeColumnFor", desc := "(I)I" } : MethodName)) ∈ zT := zT_of3 109 rfl rfl
theorem zw_590 : (Cond.code ({ cls := "ChequeredCloth$Matcher", name := "freeColumnFor", desc := "(I)I" } : MethodName) prog_8_method_6_code (5 : Nat) (Option.some FieldType.int)) ∈ zT := zT_of3 110 rfl rfl
theorem zw_591 : (Cond.constantLong "ChequeredCloth$Matcher" (67 : Nat) (1152921504606846976 : Int64)) ∈ zT := zT_of3 111 rfl rfl
theorem zw_592 : (Cond.methodLink "ChequeredCloth$Matcher" (69 : Nat) ({ cls := "ChequeredCloth$Matcher", name := "lookFrom", desc := "(I)I" } : MethodName)) ∈ zT := zT_of3 112 rfl rfl
theorem zw_594 : (Cond.instanceMethod ({ cls := "ChequeredCloth$Matcher", name := "lookFrom", desc := "(I)I" } : MethodName)) ∈ zT := zT_of3 114 rfl rfl
theorem zw_595 : (Cond.code ({ cls := "ChequeredCloth$Matcher", name := "lookFrom", desc := "(I)I" } : MethodName) prog_8_method_7_code (9 : Nat) (Option.some FieldType.int)) ∈ zT := zT_of3 115 rfl rfl
theorem zw_596 : (Cond.methodLink "ChequeredCloth$Matcher" (72 : Nat) ({ cls := "ChequeredCloth$Matcher", name := "shiftPrices", desc := "(J)V" } : MethodName)) ∈ zT := zT_of3 116 rfl rfl
theorem zw_598 : (Cond.instanceMethod ({ cls := "ChequeredCloth$Matcher", name := "shiftPrices", desc := "(J)V" } : MethodName)) ∈ zT := zT_of3 118 rfl rfl
theorem zw_599 : (Cond.code ({ cls := "ChequeredCloth$Matcher", name := "shiftPrices", desc := "(J)V" } : MethodName) prog_8_method_8_code (4 : Nat) (Option.none : Option FieldType)) ∈ zT := zT_of3 119 rfl rfl
theorem zw_600 : (Cond.methodLink "ChequeredCloth$Matcher" (63 : Nat) ({ cls := "ChequeredCloth$Matcher", name := "turnOver", desc := "(I)V" } : MethodName)) ∈ zT := zT_of3 120 rfl rfl
theorem zw_602 : (Cond.instanceMethod ({ cls := "ChequeredCloth$Matcher", name := "turnOver", desc := "(I)V" } : MethodName)) ∈ zT := zT_of3 122 rfl rfl
theorem zw_603 : (Cond.code ({ cls := "ChequeredCloth$Matcher", name := "turnOver", desc := "(I)V" } : MethodName) prog_8_method_9_code (5 : Nat) (Option.none : Option FieldType)) ∈ zT := zT_of3 123 rfl rfl
theorem zw_604 : (Cond.methodLink "ChequeredCloth$Chest" (87 : Nat) ({ cls := "ChequeredCloth$Matcher", name := "foilOf", desc := "(I)I" } : MethodName)) ∈ zT := zT_of3 124 rfl rfl
theorem zw_605 : (Cond.instanceMethod ({ cls := "ChequeredCloth$Matcher", name := "foilOf", desc := "(I)I" } : MethodName)) ∈ zT := zT_of3 125 rfl rfl
theorem zw_606 : (Cond.selects "ChequeredCloth$Matcher" ({ cls := "ChequeredCloth$Matcher", name := "foilOf", desc := "(I)I" } : MethodName) ({ cls := "ChequeredCloth$Matcher", name := "foilOf", desc := "(I)I" } : MethodName)) ∈ zT := zT_of3 126 rfl rfl
theorem zw_607 : (Cond.code ({ cls := "ChequeredCloth$Matcher", name := "foilOf", desc := "(I)I" } : MethodName) prog_8_method_5_code (2 : Nat) (Option.some FieldType.int)) ∈ zT := zT_of3 127 rfl rfl
theorem zw_608 : (Cond.methodLink "ChequeredCloth$Chest" (121 : Nat) ({ cls := "ChequeredCloth$Chest", name := "worthOf", desc := "(I)I" } : MethodName)) ∈ zT := zT_of3 128 rfl rfl
theorem zw_609 : (Cond.methodLink "ChequeredClothLaw" (83 : Nat) ({ cls := "ChequeredCloth", name := "matched", desc := "(I)I" } : MethodName)) ∈ zT := zT_of3 129 rfl rfl
theorem zw_610 : (Cond.instanceMethod ({ cls := "ChequeredCloth", name := "matched", desc := "(I)I" } : MethodName)) ∈ zT := zT_of3 130 rfl rfl
theorem zw_611 : (Cond.selects "ChequeredCloth" ({ cls := "ChequeredCloth", name := "matched", desc := "(I)I" } : MethodName) ({ cls := "ChequeredCloth", name := "matched", desc := "(I)I" } : MethodName)) ∈ zT := zT_of3 131 rfl rfl
theorem zw_612 : (Cond.code ({ cls := "ChequeredCloth", name := "matched", desc := "(I)I" } : MethodName) prog_1_method_17_code (2 : Nat) (Option.some FieldType.int)) ∈ zT := zT_of3 132 rfl rfl
theorem zw_613 : (Cond.methodLink "ChequeredCloth" (113 : Nat) ({ cls := "ChequeredCloth$Chest", name := "pairsMatched", desc := "()I" } : MethodName)) ∈ zT := zT_of3 133 rfl rfl
theorem zw_614 : (Cond.instanceMethod ({ cls := "ChequeredCloth$Chest", name := "pairsMatched", desc := "()I" } : MethodName)) ∈ zT := zT_of3 134 rfl rfl
theorem zw_615 : (Cond.selects "ChequeredCloth$Chest" ({ cls := "ChequeredCloth$Chest", name := "pairsMatched", desc := "()I" } : MethodName) ({ cls := "ChequeredCloth$Chest", name := "pairsMatched", desc := "()I" } : MethodName)) ∈ zT := zT_of3 135 rfl rfl
theorem zw_616 : (Cond.code ({ cls := "ChequeredCloth$Chest", name := "pairsMatched", desc := "()I" } : MethodName) prog_4_method_8_code (3 : Nat) (Option.some FieldType.int)) ∈ zT := zT_of3 136 rfl rfl
theorem zw_617 : (Cond.methodLink "ChequeredCloth" (117 : Nat) ({ cls := "ChequeredCloth$Chest", name := "fitMatched", desc := "()I" } : MethodName)) ∈ zT := zT_of3 137 rfl rfl
theorem zw_618 : (Cond.instanceMethod ({ cls := "ChequeredCloth$Chest", name := "fitMatched", desc := "()I" } : MethodName)) ∈ zT := zT_of3 138 rfl rfl
theorem zw_619 : (Cond.selects "ChequeredCloth$Chest" ({ cls := "ChequeredCloth$Chest", name := "fitMatched", desc := "()I" } : MethodName) ({ cls := "ChequeredCloth$Chest", name := "fitMatched", desc := "()I" } : MethodName)) ∈ zT := zT_of3 139 rfl rfl
theorem zw_620 : (Cond.code ({ cls := "ChequeredCloth$Chest", name := "fitMatched", desc := "()I" } : MethodName) prog_4_method_9_code (4 : Nat) (Option.some FieldType.int)) ∈ zT := zT_of3 140 rfl rfl
theorem zw_621 : (Cond.methodLink "ChequeredClothLaw" (87 : Nat) ({ cls := "ChequeredCloth", name := "writ", desc := "(I)I" } : MethodName)) ∈ zT := zT_of3 141 rfl rfl
theorem zw_622 : (Cond.instanceMethod ({ cls := "ChequeredCloth", name := "writ", desc := "(I)I" } : MethodName)) ∈ zT := zT_of3 142 rfl rfl
theorem zw_623 : (Cond.selects "ChequeredCloth" ({ cls := "ChequeredCloth", name := "writ", desc := "(I)I" } : MethodName) ({ cls := "ChequeredCloth", name := "writ", desc := "(I)I" } : MethodName)) ∈ zT := zT_of3 143 rfl rfl
theorem zw_624 : (Cond.code ({ cls := "ChequeredCloth", name := "writ", desc := "(I)I" } : MethodName) prog_1_method_18_code (3 : Nat) (Option.some FieldType.int)) ∈ zT := zT_of3 144 rfl rfl
theorem zw_625 : (Cond.methodLink "ChequeredCloth" (120 : Nat) ({ cls := "ChequeredCloth", name := "isTerm", desc := "(I)Z" } : MethodName)) ∈ zT := zT_of3 145 rfl rfl
theorem zw_626 : (Cond.static ({ cls := "ChequeredCloth", name := "isTerm", desc := "(I)Z" } : MethodName)) ∈ zT := zT_of3 146 rfl rfl
theorem zw_627 : (Cond.code ({ cls := "ChequeredCloth", name := "isTerm", desc := "(I)Z" } : MethodName) prog_1_method_33_code (1 : Nat) (Option.some FieldType.boolean)) ∈ zT := zT_of3 147 rfl rfl
theorem zw_628 : (Cond.methodLink "ChequeredCloth" (123 : Nat) ({ cls := "ChequeredCloth$Acts", name := "isFull", desc := "()Z" } : MethodName)) ∈ zT := zT_of3 148 rfl rfl
theorem zw_629 : (Cond.instanceMethod ({ cls := "ChequeredCloth$Acts", name := "isFull", desc := "()Z" } : MethodName)) ∈ zT := zT_of3 149 rfl rfl
theorem zw_630 : (Cond.selects "ChequeredCloth$Acts" ({ cls := "ChequeredCloth$Acts", name := "isFull", desc := "()Z" } : MethodName) ({ cls := "ChequeredCloth$Acts", name := "isFull", desc := "()Z" } : MethodName)) ∈ zT := zT_of3 150 rfl rfl
theorem zw_631 : (Cond.code ({ cls := "ChequeredCloth$Acts", name := "isFull", desc := "()Z" } : MethodName) prog_2_method_3_code (1 : Nat) (Option.some FieldType.boolean)) ∈ zT := zT_of3 151 rfl rfl
theorem zw_632 : (Cond.methodLink "ChequeredCloth" (126 : Nat) ({ cls := "ChequeredCloth$Reader", name := "wipe", desc := "()V" } : MethodName)) ∈ zT := zT_of3 152 rfl rfl
theorem zw_633 : (Cond.instanceMethod ({ cls := "ChequeredCloth$Reader", name := "wipe", desc := "()V" } : MethodName)) ∈ zT := zT_of3 153 rfl rfl
theorem zw_634 : (Cond.selects "ChequeredCloth$Reader" ({ cls := "ChequeredCloth$Reader", name := "wipe", desc := "()V" } : MethodName) ({ cls := "ChequeredCloth$Reader", name := "wipe", desc := "()V" } : MethodName)) ∈ zT := zT_of3 154 rfl rfl
theorem zw_635 : (Cond.code ({ cls := "ChequeredCloth$Reader", name := "wipe", desc := "()V" } : MethodName) prog_9_method_5_code (1 : Nat) (Option.none : Option FieldType)) ∈ zT := zT_of3 155 rfl rfl
theorem zw_636 : (Cond.methodLink "ChequeredCloth" (129 : Nat) ({ cls := "ChequeredCloth$Reader", name := "read", desc := "()LChequeredCloth$Writ;" } : MethodName)) ∈ zT := zT_of3 156 rfl rfl
theorem zw_637 : (Cond.instanceMethod ({ cls := "ChequeredCloth$Reader", name := "read", desc := "()LChequeredCloth$Writ;" } : MethodName)) ∈ zT := zT_of3 157 rfl rfl
theorem zw_638 : (Cond.selects "ChequeredCloth$Reader" ({ cls := "ChequeredCloth$Reader", name := "read", desc := "()LChequeredCloth$Writ;" } : MethodName) ({ cls := "ChequeredCloth$Reader", name := "read", desc := "()LChequeredCloth$Writ;" } : MethodName)) ∈ zT := zT_of3 158 rfl rfl
theorem zw_639 : (Cond.code ({ cls := "ChequeredCloth$Reader", name := "read", desc := "()LChequeredCloth$Writ;" } : MethodName) prog_9_method_8_code (2 : Nat) (Option.some (FieldType.object "ChequeredCloth$Writ"))) ∈ zT := zT_of3 159 rfl rfl
theorem zw_640 : (Cond.methodLink "ChequeredCloth$Reader" (50 : Nat) ({ cls := "ChequeredCloth$Reader", name := "next", desc := "()V" } : MethodName)) ∈ zT := zT_of3 160 rfl rfl
theorem zw_642 : (Cond.instanceMethod ({ cls := "ChequeredCloth$Reader", name := "next", desc := "()V" } : MethodName)) ∈ zT := zT_of3 162 rfl rfl
theorem zw_643 : (Cond.code ({ cls := "ChequeredCloth$Reader", name := "next", desc := "()V" } : MethodName) prog_9_method_28_code (3 : Nat) (Option.none : Option FieldType)) ∈ zT := zT_of3 163 rfl rfl
theorem zw_644 : (Cond.methodLink "ChequeredCloth$Reader" (53 : Nat) ({ cls := "ChequeredCloth$Reader", name := "readStatement", desc := "()Z" } : MethodName)) ∈ zT := zT_of3 164 rfl rfl
theorem zw_646 : (Cond.instanceMethod ({ cls := "ChequeredCloth$Reader", name := "readStatement", desc := "()Z" } : MethodName)) ∈ zT := zT_of3 166 rfl rfl
theorem zw_647 : (Cond.code ({ cls := "ChequeredCloth$Reader", name := "readStatement", desc := "()Z" } : MethodName) prog_9_method_9_code (3 : Nat) (Option.some FieldType.boolean)) ∈ zT := zT_of3 167 rfl rfl
theorem zw_648 : (Cond.instantiable "ChequeredCloth$Statement" (7 : Nat)) ∈ zT := zT_of3 168 rfl rfl
theorem zw_650 : (Cond.instanceMethod ({ cls := "ChequeredCloth$Statement", name := "<init>", desc := "()V" } : MethodName)) ∈ zT := zT_of3 170 rfl rfl
theorem zw_651 : (Cond.code ({ cls := "ChequeredCloth$Statement", name := "<init>", desc := "()V" } : MethodName) prog_11_method_1_code (1 : Nat) (Option.none : Option FieldType)) ∈ zT := zT_of3 171 rfl rfl
theorem zw_652 : (Cond.methodLink "ChequeredCloth$Statement" (1 : Nat) ({ cls := "java/lang/Object", name := "<init>", desc := "()V" } : MethodName)) ∈ zT := zT_of3 172 rfl rfl
theorem zw_667 : (Cond.lays "ChequeredCloth$Statement" "ChequeredCloth$Statement" "kind" "I") ∈ zT := zT_of3 187 rfl rfl
theorem zw_669 : (Cond.lays "ChequeredCloth$Statement" "ChequeredCloth$Statement" "blanched" "Z") ∈ zT := zT_of3 189 rfl rfl
theorem zw_671 : (Cond.lays "ChequeredCloth$Statement" "ChequeredCloth$Statement" "first" "I") ∈ zT := zT_of3 191 rfl rfl
theorem zw_673 : (Cond.lays "ChequeredCloth$Statement" "ChequeredCloth$Statement" "second" "I") ∈ zT := zT_of3 193 rfl rfl
theorem zw_675 : (Cond.lays "ChequeredCloth$Statement" "ChequeredCloth$Statement" "from" "I") ∈ zT := zT_of3 195 rfl rfl
theorem zw_677 : (Cond.lays "ChequeredCloth$Statement" "ChequeredCloth$Statement" "test" "I") ∈ zT := zT_of3 197 rfl rfl
theorem zw_679 : (Cond.lays "ChequeredCloth$Statement" "ChequeredCloth$Statement" "end" "I") ∈ zT := zT_of3 199 rfl rfl
theorem zw_682 : (Cond.methodLink "ChequeredCloth$Reader" (76 : Nat) ({ cls := "ChequeredCloth$Reader", name := "readDuty", desc := "(LChequeredCloth$Statement;)Z" } : MethodName)) ∈ zT := zT_of3 202 rfl rfl
theorem zw_684 : (Cond.instanceMethod ({ cls := "ChequeredCloth$Reader", name := "readDuty", desc := "(LChequeredCloth$Statement;)Z" } : MethodName)) ∈ zT := zT_of3 204 rfl rfl
theorem zw_685 : (Cond.code ({ cls := "ChequeredCloth$Reader", name := "readDuty", desc := "(LChequeredCloth$Statement;)Z" } : MethodName) prog_9_method_10_code (3 : Nat) (Option.some FieldType.boolean)) ∈ zT := zT_of3 205 rfl rfl
theorem zw_687 : (Cond.methodLink "ChequeredCloth$Reader" (101 : Nat) ({ cls := "ChequeredCloth$Reader", name := "takeWord", desc := "(Ljava/lang/String;)Z" } : MethodName)) ∈ zT := zT_of3 207 rfl rfl
theorem zw_689 : (Cond.instanceMethod ({ cls := "ChequeredCloth$Reader", name := "takeWord", desc := "(Ljava/lang/String;)Z" } : MethodName)) ∈ zT := zT_of3 209 rfl rfl
theorem zw_690 : (Cond.code ({ cls := "ChequeredCloth$Reader", name := "takeWord", desc := "(Ljava/lang/String;)Z" } : MethodName) prog_9_method_27_code (3 : Nat) (Option.some FieldType.boolean)) ∈ zT := zT_of3 210 rfl rfl
theorem zw_691 : (Cond.methodLink "ChequeredCloth$Reader" (194 : Nat) ({ cls := "java/lang/String", name := "length", desc := "()I" } : MethodName)) ∈ zT := zT_of3 211 rfl rfl
theorem zw_692 : (Cond.instanceMethod ({ cls := "java/lang/String", name := "length", desc := "()I" } : MethodName)) ∈ zT := zT_of3 212 rfl rfl
theorem zw_693 : (Cond.selects "java/lang/String" ({ cls := "java/lang/String", name := "length", desc := "()I" } : MethodName) ({ cls := "java/lang/String", name := "length", desc := "()I" } : MethodName)) ∈ zT := zT_of3 213 rfl rfl
theorem zw_694 : (Cond.code ({ cls := "java/lang/String", name := "length", desc := "()I" } : MethodName) prog_17_method_54_code (1 : Nat) (Option.some FieldType.int)) ∈ zT := zT_of3 214 rfl rfl
theorem zw_695 : (Cond.methodLink "java/lang/String" (335 : Nat) ({ cls := "java/lang/String", name := "coder", desc := "()B" } : MethodName)) ∈ zT := zT_of3 215 rfl rfl
theorem zw_696 : (Cond.instanceMethod ({ cls := "java/lang/String", name := "coder", desc := "()B" } : MethodName)) ∈ zT := zT_of3 216 rfl rfl
theorem zw_697 : (Cond.selects "java/lang/String" ({ cls := "java/lang/String", name := "coder", desc := "()B" } : MethodName) ({ cls := "java/lang/String", name := "coder", desc := "()B" } : MethodName)) ∈ zT := zT_of3 217 rfl rfl
theorem zw_698 : (Cond.code ({ cls := "java/lang/String", name := "coder", desc := "()B" } : MethodName) prog_17_method_152_code (1 : Nat) (Option.some FieldType.byte)) ∈ zT := zT_of3 218 rfl rfl
theorem zw_699 : (Cond.fieldLink "java/lang/String" (38 : Nat) "java/lang/String" "COMPACT_STRINGS" "Z") ∈ zT := zT_of3 219 rfl rfl
theorem zw_701 : (Cond.methodLink "ChequeredCloth$Reader" (198 : Nat) ({ cls := "java/lang/String", name := "charAt", desc := "(I)C" } : MethodName)) ∈ zT := zT_of3 221 rfl rfl
theorem zw_702 : (Cond.instanceMethod ({ cls := "java/lang/String", name := "charAt", desc := "(I)C" } : MethodName)) ∈ zT := zT_of3 222 rfl rfl
theorem zw_703 : (Cond.selects "java/lang/String" ({ cls := "java/lang/String", name := "charAt", desc := "(I)C" } : MethodName) ({ cls := "java/lang/String", name := "charAt", desc := "(I)C" } : MethodName)) ∈ zT := zT_of3 223 rfl rfl
theorem zw_704 : (Cond.code ({ cls := "java/lang/String", name := "charAt", desc := "(I)C" } : MethodName) prog_17_method_56_code (2 : Nat) (Option.some FieldType.char)) ∈ zT := zT_of3 224 rfl rfl
theorem zw_705 : (Cond.methodLink "java/lang/String" (492 : Nat) ({ cls := "java/lang/String", name := "isLatin1", desc := "()Z" } : MethodName)) ∈ zT := zT_of3 225 rfl rfl
theorem zw_706 : (Cond.instanceMethod ({ cls := "java/lang/String", name := "isLatin1", desc := "()Z" } : MethodName)) ∈ zT := zT_of3 226 rfl rfl
theorem zw_707 : (Cond.selects "java/lang/String" ({ cls := "java/lang/String", name := "isLatin1", desc := "()Z" } : MethodName) ({ cls := "java/lang/String", name := "isLatin1", desc := "()Z" } : MethodName)) ∈ zT := zT_of3 227 rfl rfl
theorem zw_708 : (Cond.code ({ cls := "java/lang/String", name := "isLatin1", desc := "()Z" } : MethodName) prog_17_method_154_code (1 : Nat) (Option.some FieldType.boolean)) ∈ zT := zT_of3 228 rfl rfl
theorem zw_709 : (Cond.methodLink "java/lang/String" (495 : Nat) ({ cls := "java/lang/StringLatin1", name := "charAt", desc := "([BI)C" } : MethodName)) ∈ zT := zT_of3 229 rfl rfl
theorem zw_710 : (Cond.static ({ cls := "java/lang/StringLatin1", name := "charAt", desc := "([BI)C" } : MethodName)) ∈ zT := zT_of3 230 rfl rfl
theorem zw_711 : (Cond.code ({ cls := "java/lang/StringLatin1", name := "charAt", desc := "([BI)C" } : MethodName) prog_18_method_2_code (2 : Nat) (Option.some FieldType.char)) ∈ zT := zT_of3 231 rfl rfl
theorem zw_712 : (Cond.methodLink "java/lang/StringLatin1" (9 : Nat) ({ cls := "java/lang/String", name := "checkIndex", desc := "(II)V" } : MethodName)) ∈ zT := zT_of3 232 rfl rfl
theorem zw_713 : (Cond.static ({ cls := "java/lang/String", name := "checkIndex", desc := "(II)V" } : MethodName)) ∈ zT := zT_of3 233 rfl rfl
theorem zw_714 : (Cond.code ({ cls := "java/lang/String", name := "checkIndex", desc := "(II)V" } : MethodName) prog_17_method_155_code (2 : Nat) (Option.none : Option FieldType)) ∈ zT := zT_of3 234 rfl rfl
theorem zw_715 : (Cond.fieldLink "java/lang/String" (1053 : Nat) "jdk/internal/util/Preconditions" "SIOOBE_FORMATTER" "Ljava/util/function/BiFunction;") ∈ zT := zT_of3 235 rfl rfl
theorem zw_717 : (Cond.methodLink "java/lang/String" (1059 : Nat) ({ cls := "jdk/internal/util/Preconditions", name := "checkIndex", desc := "(IILjava/util/function/BiFunction;)I" } : MethodName)) ∈ zT := zT_of3 237 rfl rfl
theorem zw_718 : (Cond.static ({ cls := "jdk/internal/util/Preconditions", name := "checkIndex", desc := "(IILjava/util/function/BiFunction;)I" } : MethodName)) ∈ zT := zT_of3 238 rfl rfl
theorem zw_719 : (Cond.code ({ cls := "jdk/internal/util/Preconditions", name := "checkIndex", desc := "(IILjava/util/function/BiFunction;)I" } : MethodName) prog_22_method_11_code (3 : Nat) (Option.some FieldType.int)) ∈ zT := zT_of3 239 rfl rfl
theorem zw_720 : (Cond.methodLink "java/lang/String" (498 : Nat) ({ cls := "java/lang/StringUTF16", name := "charAt", desc := "([BI)C" } : MethodName)) ∈ zT := zT_of4 0 rfl rfl
theorem zw_721 : (Cond.static ({ cls := "java/lang/StringUTF16", name := "charAt", desc := "([BI)C" } : MethodName)) ∈ zT := zT_of4 1 rfl rfl
theorem zw_722 : (Cond.code ({ cls := "java/lang/StringUTF16", name := "charAt", desc := "([BI)C" } : MethodName) prog_19_method_83_code (2 : Nat) (Option.some FieldType.char)) ∈ zT := zT_of4 2 rfl rfl
theorem zw_723 : (Cond.methodLink "java/lang/StringUTF16" (67 : Nat) ({ cls := "java/lang/StringUTF16", name := "checkIndex", desc := "(I[B)V" } : MethodName)) ∈ zT := zT_of4 3 rfl rfl
theorem zw_724 : (Cond.static ({ cls := "java/lang/StringUTF16", name := "checkIndex", desc := "(I[B)V" } : MethodName)) ∈ zT := zT_of4 4 rfl rfl
theorem zw_725 : (Cond.code ({ cls := "java/lang/StringUTF16", name := "checkIndex", desc := "(I[B)V" } : MethodName) prog_19_method_91_code (2 : Nat) (Option.none : Option FieldType)) ∈ zT := zT_of4 5 rfl rfl
theorem zw_726 : (Cond.methodLink "java/lang/StringUTF16" (48 : Nat) ({ cls := "java/lang/StringUTF16", name := "length", desc := "([B)I" } : MethodName)) ∈ zT := zT_of4 6 rfl rfl
theorem zw_727 : (Cond.static ({ cls := "java/lang/StringUTF16", name := "length", desc := "([B)I" } : MethodName)) ∈ zT := zT_of4 7 rfl rfl
theorem zw_728 : (Cond.code ({ cls := "java/lang/StringUTF16", name := "length", desc := "([B)I" } : MethodName) prog_19_method_6_code (1 : Nat) (Option.some FieldType.int)) ∈ zT := zT_of4 8 rfl rfl
theorem zw_729 : (Cond.methodLink "java/lang/StringUTF16" (414 : Nat) ({ cls := "java/lang/String", name := "checkIndex", desc := "(II)V" } : MethodName)) ∈ zT := zT_of4 9 rfl rfl
theorem zw_730 : (Cond.methodLink "java/lang/StringUTF16" (71 : Nat) ({ cls := "java/lang/StringUTF16", name := "getChar", desc := "([BI)C" } : MethodName)) ∈ zT := zT_of4 10 rfl rfl
theorem zw_731 : (Cond.static ({ cls := "java/lang/StringUTF16", name := "getChar", desc := "([BI)C" } : MethodName)) ∈ zT := zT_of4 11 rfl rfl
theorem zw_732 : (Cond.code ({ cls := "java/lang/StringUTF16", name := "getChar", desc := "([BI)C" } : MethodName) prog_19_method_5_code (2 : Nat) (Option.some FieldType.char)) ∈ zT := zT_of4 12 rfl rfl
theorem zw_733 : (Cond.fieldLink "java/lang/StringUTF16" (44 : Nat) "java/lang/StringUTF16" "$assertionsDisabled" "Z") ∈ zT := zT_of4 13 rfl rfl
theorem zw_735 : (Cond.fieldLink "java/lang/StringUTF16" (59 : Nat) "java/lang/StringUTF16" "HI_BYTE_SHIFT" "I") ∈ zT := zT_of4 15 rfl rfl
theorem zw_737 : (Cond.fieldLink "java/lang/StringUTF16" (63 : Nat) "java/lang/StringUTF16" "LO_BYTE_SHIFT" "I") ∈ zT := zT_of4 17 rfl rfl
theorem zw_739 : (Cond.methodLink "ChequeredCloth$Reader" (105 : Nat) ({ cls := "ChequeredCloth$Reader", name := "readSum", desc := "()Z" } : MethodName)) ∈ zT := zT_of4 19 rfl rfl
theorem zw_741 : (Cond.instanceMethod ({ cls := "ChequeredCloth$Reader", name := "readSum", desc := "()Z" } : MethodName)) ∈ zT := zT_of4 21 rfl rfl
theorem zw_742 : (Cond.code ({ cls := "ChequeredCloth$Reader", name := "readSum", desc := "()Z" } : MethodName) prog_9_method_14_code (4 : Nat) (Option.some FieldType.boolean)) ∈ zT := zT_of4 22 rfl rfl
theorem zw_743 : (Cond.methodLink "ChequeredCloth$Reader" (162 : Nat) ({ cls := "ChequeredCloth$Reader", name := "readProduct", desc := "()Z" } : MethodName)) ∈ zT := zT_of4 23 rfl rfl
theorem zw_745 : (Cond.instanceMethod ({ cls := "ChequeredCloth$Reader", name := "readProduct", desc := "()Z" } : MethodName)) ∈ zT := zT_of4 25 rfl rfl
theorem zw_746 : (Cond.code ({ cls := "ChequeredCloth$Reader", name := "readProduct", desc := "()Z" } : MethodName) prog_9_method_15_code (4 : Nat) (Option.some FieldType.boolean)) ∈ zT := zT_of4 26 rfl rfl
theorem zw_747 : (Cond.methodLink "ChequeredCloth$Reader" (165 : Nat) ({ cls := "ChequeredCloth$Reader", name := "readPart", desc := "()Z" } : MethodName)) ∈ zT := zT_of4 27 rfl rfl
theorem zw_749 : (Cond.instanceMethod ({ cls := "ChequeredCloth$Reader", name := "readPart", desc := "()Z" } : MethodName)) ∈ zT := zT_of4 29 rfl rfl
theorem zw_750 : (Cond.code ({ cls := "ChequeredCloth$Reader", name := "readPart", desc := "()Z" } : MethodName) prog_9_method_16_code (3 : Nat) (Option.some FieldType.boolean)) ∈ zT := zT_of4 30 rfl rfl
theorem zw_751 : (Cond.constant "ChequeredCloth$Reader" (168 : Nat) (99999 : Int32)) ∈ zT := zT_of4 31 rfl rfl
theorem zw_752 : (Cond.methodLink "ChequeredCloth$Reader" (117 : Nat) ({ cls := "ChequeredCloth$Reader", name := "readNumber", desc := "(II)I" } : MethodName)) ∈ zT := zT_of4 32 rfl rfl
theorem zw_754 : (Cond.instanceMethod ({ cls := "ChequeredCloth$Reader", name := "readNumber", desc := "(II)I" } : MethodName)) ∈ zT := zT_of4 34 rfl rfl
theorem zw_755 : (Cond.code ({ cls := "ChequeredCloth$Reader", name := "readNumber", desc := "(II)I" } : MethodName) prog_9_method_19_code (5 : Nat) (Option.some FieldType.int)) ∈ zT := zT_of4 35 rfl rfl
theorem zw_756 : (Cond.methodLink "ChequeredCloth$Reader" (60 : Nat) ({ cls := "ChequeredCloth$Reader", name := "fail", desc := "(II)Z" } : MethodName)) ∈ zT := zT_of4 36 rfl rfl
theorem zw_758 : (Cond.instanceMethod ({ cls := "ChequeredCloth$Reader", name := "fail", desc := "(II)Z" } : MethodName)) ∈ zT := zT_of4 38 rfl rfl
theorem zw_759 : (Cond.code ({ cls := "ChequeredCloth$Reader", name := "fail", desc := "(II)Z" } : MethodName) prog_9_method_25_code (3 : Nat) (Option.some FieldType.boolean)) ∈ zT := zT_of4 39 rfl rfl
theorem zw_760 : (Cond.methodLink "ChequeredCloth$Reader" (169 : Nat) ({ cls := "ChequeredCloth$Reader", name := "takeUnit", desc := "()I" } : MethodName)) ∈ zT := zT_of4 40 rfl rfl
theorem zw_762 : (Cond.instanceMethod ({ cls := "ChequeredCloth$Reader", name := "takeUnit", desc := "()I" } : MethodName)) ∈ zT := zT_of4 42 rfl rfl
theorem zw_763 : (Cond.code ({ cls := "ChequeredCloth$Reader", name := "takeUnit", desc := "()I" } : MethodName) prog_9_method_18_code (1 : Nat) (Option.some FieldType.int)) ∈ zT := zT_of4 43 rfl rfl
theorem zw_767 : (Cond.methodLink "ChequeredCloth$Reader" (138 : Nat) ({ cls := "ChequeredCloth$Reader", name := "emit", desc := "(I)Z" } : MethodName)) ∈ zT := zT_of4 47 rfl rfl
theorem zw_769 : (Cond.instanceMethod ({ cls := "ChequeredCloth$Reader", name := "emit", desc := "(I)Z" } : MethodName)) ∈ zT := zT_of4 49 rfl rfl
theorem zw_770 : (Cond.code ({ cls := "ChequeredCloth$Reader", name := "emit", desc := "(I)Z" } : MethodName) prog_9_method_22_code (2 : Nat) (Option.some FieldType.boolean)) ∈ zT := zT_of4 50 rfl rfl
theorem zw_771 : (Cond.methodLink "ChequeredCloth$Reader" (155 : Nat) ({ cls := "ChequeredCloth$Reader", name := "takeMark", desc := "(C)Z" } : MethodName)) ∈ zT := zT_of4 51 rfl rfl
theorem zw_773 : (Cond.instanceMethod ({ cls := "ChequeredCloth$Reader", name := "takeMark", desc := "(C)Z" } : MethodName)) ∈ zT := zT_of4 53 rfl rfl
theorem zw_774 : (Cond.code ({ cls := "ChequeredCloth$Reader", name := "takeMark", desc := "(C)Z" } : MethodName) prog_9_method_26_code (2 : Nat) (Option.some FieldType.boolean)) ∈ zT := zT_of4 54 rfl rfl
theorem zw_775 : (Cond.methodLink "ChequeredCloth$Reader" (149 : Nat) ({ cls := "ChequeredCloth$Reader", name := "opens", desc := "(I)Z" } : MethodName)) ∈ zT := zT_of4 55 rfl rfl
theorem zw_777 : (Cond.instanceMethod ({ cls := "ChequeredCloth$Reader", name := "opens", desc := "(I)Z" } : MethodName)) ∈ zT := zT_of4 57 rfl rfl
theorem zw_778 : (Cond.code ({ cls := "ChequeredCloth$Reader", name := "opens", desc := "(I)Z" } : MethodName) prog_9_method_20_code (2 : Nat) (Option.some FieldType.boolean)) ∈ zT := zT_of4 58 rfl rfl
theorem zw_779 : (Cond.methodLink "ChequeredCloth$Reader" (95 : Nat) ({ cls := "ChequeredCloth$Reader", name := "needMark", desc := "(C)Z" } : MethodName)) ∈ zT := zT_of4 59 rfl rfl
theorem zw_781 : (Cond.instanceMethod ({ cls := "ChequeredCloth$Reader", name := "needMark", desc := "(C)Z" } : MethodName)) ∈ zT := zT_of4 61 rfl rfl
theorem zw_782 : (Cond.code ({ cls := "ChequeredCloth$Reader", name := "needMark", desc := "(C)Z" } : MethodName) prog_9_method_24_code (2 : Nat) (Option.some FieldType.boolean)) ∈ zT := zT_of4 62 rfl rfl
theorem zw_783 : (Cond.methodLink "ChequeredCloth$Reader" (152 : Nat) ({ cls := "ChequeredCloth$Reader", name := "closes", desc := "()Z" } : MethodName)) ∈ zT := zT_of4 63 rfl rfl
theorem zw_785 : (Cond.instanceMethod ({ cls := "ChequeredCloth$Reader", name := "closes", desc := "()Z" } : MethodName)) ∈ zT := zT_of4 65 rfl rfl
theorem zw_786 : (Cond.code ({ cls := "ChequeredCloth$Reader", name := "closes", desc := "()Z" } : MethodName) prog_9_method_21_code (1 : Nat) (Option.some FieldType.boolean)) ∈ zT := zT_of4 66 rfl rfl
theorem zw_788 : (Cond.methodLink "ChequeredCloth$Reader" (175 : Nat) ({ cls := "ChequeredCloth$Reader", name := "readTwo", desc := "()Z" } : MethodName)) ∈ zT := zT_of4 68 rfl rfl
theorem zw_790 : (Cond.instanceMethod ({ cls := "ChequeredCloth$Reader", name := "readTwo", desc := "()Z" } : MethodName)) ∈ zT := zT_of4 70 rfl rfl
theorem zw_791 : (Cond.code ({ cls := "ChequeredCloth$Reader", name := "readTwo", desc := "()Z" } : MethodName) prog_9_method_17_code (2 : Nat) (Option.some FieldType.boolean)) ∈ zT := zT_of4 71 rfl rfl
theorem zw_801 : (Cond.methodLink "ChequeredCloth$Reader" (85 : Nat) ({ cls := "ChequeredCloth$Reader", name := "needWord", desc := "(Ljava/lang/String;)Z" } : MethodName)) ∈ zT := zT_of4 81 rfl rfl
theorem zw_803 : (Cond.instanceMethod ({ cls := "ChequeredCloth$Reader", name := "needWord", desc := "(Ljava/lang/String;)Z" } : MethodName)) ∈ zT := zT_of4 83 rfl rfl
theorem zw_804 : (Cond.code ({ cls := "ChequeredCloth$Reader", name := "needWord", desc := "(Ljava/lang/String;)Z" } : MethodName) prog_9_method_23_code (2 : Nat) (Option.some FieldType.boolean)) ∈ zT := zT_of4 84 rfl rfl
theorem zw_807 : (Cond.methodLink "ChequeredCloth$Reader" (89 : Nat) ({ cls := "ChequeredCloth$Reader", name := "readTest", desc := "()Z" } : MethodName)) ∈ zT := zT_of4 87 rfl rfl
theorem zw_809 : (Cond.instanceMethod ({ cls := "ChequeredCloth$Reader", name := "readTest", desc := "()Z" } : MethodName)) ∈ zT := zT_of4 89 rfl rfl
theorem zw_810 : (Cond.code ({ cls := "ChequeredCloth$Reader", name := "readTest", desc := "()Z" } : MethodName) prog_9_method_11_code (3 : Nat) (Option.some FieldType.boolean)) ∈ zT := zT_of4 90 rfl rfl
theorem zw_811 : (Cond.methodLink "ChequeredCloth$Reader" (131 : Nat) ({ cls := "ChequeredCloth$Reader", name := "readBoth", desc := "()Z" } : MethodName)) ∈ zT := zT_of4 91 rfl rfl
theorem zw_813 : (Cond.instanceMethod ({ cls := "ChequeredCloth$Reader", name := "readBoth", desc := "()Z" } : MethodName)) ∈ zT := zT_of4 93 rfl rfl
theorem zw_814 : (Cond.code ({ cls := "ChequeredCloth$Reader", name := "readBoth", desc := "()Z" } : MethodName) prog_9_method_12_code (3 : Nat) (Option.some FieldType.boolean)) ∈ zT := zT_of4 94 rfl rfl
theorem zw_815 : (Cond.methodLink "ChequeredCloth$Reader" (142 : Nat) ({ cls := "ChequeredCloth$Reader", name := "readFact", desc := "()Z" } : MethodName)) ∈ zT := zT_of4 95 rfl rfl
theorem zw_817 : (Cond.instanceMethod ({ cls := "ChequeredCloth$Reader", name := "readFact", desc := "()Z" } : MethodName)) ∈ zT := zT_of4 97 rfl rfl
theorem zw_818 : (Cond.code ({ cls := "ChequeredCloth$Reader", name := "readFact", desc := "()Z" } : MethodName) prog_9_method_13_code (3 : Nat) (Option.some FieldType.boolean)) ∈ zT := zT_of4 98 rfl rfl
theorem zw_824 : (Cond.methodLink "ChequeredCloth$Reader" (64 : Nat) ({ cls := "ChequeredCloth$Reader", name := "wipe", desc := "()V" } : MethodName)) ∈ zT := zT_of4 104 rfl rfl
theorem zw_825 : (Cond.classLink "ChequeredCloth$Reader" (67 : Nat) "ChequeredCloth$Writ") ∈ zT := zT_of4 105 rfl rfl
theorem zw_826 : (Cond.instantiable "ChequeredCloth$Writ" (2 : Nat)) ∈ zT := zT_of4 106 rfl rfl
theorem zw_827 : (Cond.methodLink "ChequeredCloth$Reader" (69 : Nat) ({ cls := "ChequeredCloth$Writ", name := "<init>", desc := "([LChequeredCloth$Statement;I[II)V" } : MethodName)) ∈ zT := zT_of4 107 rfl rfl
theorem zw_828 : (Cond.instanceMethod ({ cls := "ChequeredCloth$Writ", name := "<init>", desc := "([LChequeredCloth$Statement;I[II)V" } : MethodName)) ∈ zT := zT_of4 108 rfl rfl
theorem zw_829 : (Cond.code ({ cls := "ChequeredCloth$Writ", name := "<init>", desc := "([LChequeredCloth$Statement;I[II)V" } : MethodName) prog_12_method_1_code (5 : Nat) (Option.none : Option FieldType)) ∈ zT := zT_of4 109 rfl rfl
theorem zw_830 : (Cond.methodLink "ChequeredCloth$Writ" (1 : Nat) ({ cls := "java/lang/Object", name := "<init>", desc := "()V" } : MethodName)) ∈ zT := zT_of4 110 rfl rfl
theorem zw_831 : (Cond.classLink "ChequeredCloth$Writ" (7 : Nat) "ChequeredCloth$Statement") ∈ zT := zT_of4 111 rfl rfl
theorem zw_832 : (Cond.methodLink "ChequeredCloth$Writ" (15 : Nat) ({ cls := "java/lang/System", name := "arraycopy", desc := "(Ljava/lang/Object;ILjava/lang/Object;II)V" } : MethodName)) ∈ zT := zT_of4 112 rfl rfl
theorem zw_833 : (Cond.methodLink "ChequeredCloth$Writ" (21 : Nat) ({ cls := "java/util/Arrays", name := "copyOf", desc := "([II)[I" } : MethodName)) ∈ zT := zT_of4 113 rfl rfl
theorem zw_834 : (Cond.static ({ cls := "java/util/Arrays", name := "copyOf", desc := "([II)[I" } : MethodName)) ∈ zT := zT_of4 114 rfl rfl
theorem zw_835 : (Cond.code ({ cls := "java/util/Arrays", name := "copyOf", desc := "([II)[I" } : MethodName) prog_21_method_123_code (3 : Nat) (Option.some (FieldType.array FieldType.int))) ∈ zT := zT_of4 115 rfl rfl
theorem zw_836 : (Cond.methodLink "java/util/Arrays" (316 : Nat) ({ cls := "[I", name := "clone", desc := "()Ljava/lang/Object;" } : MethodName)) ∈ zT := zT_of4 116 rfl rfl
theorem zw_838 : (Cond.native ({ cls := "java/lang/Object", name := "clone", desc := "()Ljava/lang/Object;" } : MethodName)) ∈ zT := zT_of4 118 rfl rfl
theorem zw_839 : (Cond.instanceMethod ({ cls := "java/lang/Object", name := "clone", desc := "()Ljava/lang/Object;" } : MethodName)) ∈ zT := zT_of4 119 rfl rfl
theorem zw_840 : (Cond.selects "[I" ({ cls := "[I", name := "clone", desc := "()Ljava/lang/Object;" } : MethodName) ({ cls := "java/lang/Object", name := "clone", desc := "()Ljava/lang/Object;" } : MethodName)) ∈ zT := zT_of4 120 rfl rfl
theorem zw_842 : (Cond.classLink "java/util/Arrays" (317 : Nat) "[I") ∈ zT := zT_of4 122 rfl rfl
theorem zw_843 : (Cond.methodLink "java/util/Arrays" (304 : Nat) ({ cls := "java/lang/Math", name := "min", desc := "(II)I" } : MethodName)) ∈ zT := zT_of4 123 rfl rfl
theorem zw_844 : (Cond.methodLink "java/util/Arrays" (150 : Nat) ({ cls := "java/lang/System", name := "arraycopy", desc := "(Ljava/lang/Object;ILjava/lang/Object;II)V" } : MethodName)) ∈ zT := zT_of4 124 rfl rfl
theorem zw_845 : (Cond.fieldLink "ChequeredCloth$Writ" (9 : Nat) "ChequeredCloth$Writ" "statements" "[LChequeredCloth$Statement;") ∈ zT := zT_of4 125 rfl rfl
theorem zw_848 : (Cond.fieldLink "ChequeredCloth$Writ" (27 : Nat) "ChequeredCloth$Writ" "code" "[I") ∈ zT := zT_of4 128 rfl rfl
theorem zw_850 : (Cond.laysFinal "ChequeredCloth$Writ" "ChequeredCloth$Writ" "statements" "[LChequeredCloth$Statement;") ∈ zT := zT_of4 130 rfl rfl
theorem zw_852 : (Cond.laysFinal "ChequeredCloth$Writ" "ChequeredCloth$Writ" "code" "[I") ∈ zT := zT_of4 132 rfl rfl
theorem zw_855 : (Cond.arrayClass FieldType.byte) ∈ zT := zT_of4 135 rfl rfl
theorem zw_856 : (Cond.methodLink "ChequeredCloth" (133 : Nat) ({ cls := "ChequeredCloth$Acts", name := "addWrit", desc := "(ILChequeredCloth$Writ;)I" } : MethodName)) ∈ zT := zT_of4 136 rfl rfl
theorem zw_857 : (Cond.instanceMethod ({ cls := "ChequeredCloth$Acts", name := "addWrit", desc := "(ILChequeredCloth$Writ;)I" } : MethodName)) ∈ zT := zT_of4 137 rfl rfl
theorem zw_858 : (Cond.selects "ChequeredCloth$Acts" ({ cls := "ChequeredCloth$Acts", name := "addWrit", desc := "(ILChequeredCloth$Writ;)I" } : MethodName) ({ cls := "ChequeredCloth$Acts", name := "addWrit", desc := "(ILChequeredCloth$Writ;)I" } : MethodName)) ∈ zT := zT_of4 138 rfl rfl
theorem zw_859 : (Cond.code ({ cls := "ChequeredCloth$Acts", name := "addWrit", desc := "(ILChequeredCloth$Writ;)I" } : MethodName) prog_2_method_5_code (4 : Nat) (Option.some FieldType.int)) ∈ zT := zT_of4 139 rfl rfl
theorem zw_860 : (Cond.methodLink "ChequeredCloth$Acts" (41 : Nat) ({ cls := "ChequeredCloth$Acts", name := "add", desc := "(IIII)I" } : MethodName)) ∈ zT := zT_of4 140 rfl rfl
theorem zw_861 : (Cond.instanceMethod ({ cls := "ChequeredCloth$Acts", name := "add", desc := "(IIII)I" } : MethodName)) ∈ zT := zT_of4 141 rfl rfl
theorem zw_862 : (Cond.selects "ChequeredCloth$Acts" ({ cls := "ChequeredCloth$Acts", name := "add", desc := "(IIII)I" } : MethodName) ({ cls := "ChequeredCloth$Acts", name := "add", desc := "(IIII)I" } : MethodName)) ∈ zT := zT_of4 142 rfl rfl
theorem zw_863 : (Cond.code ({ cls := "ChequeredCloth$Acts", name := "add", desc := "(IIII)I" } : MethodName) prog_2_method_4_code (5 : Nat) (Option.some FieldType.int)) ∈ zT := zT_of4 143 rfl rfl
theorem zw_864 : (Cond.methodLink "ChequeredCloth$Acts" (37 : Nat) ({ cls := "ChequeredCloth$Acts", name := "isFull", desc := "()Z" } : MethodName)) ∈ zT := zT_of4 144 rfl rfl
theorem zw_865 : (Cond.methodLink "ChequeredClothLaw" (91 : Nat) ({ cls := "ChequeredCloth", name := "fault", desc := "(I)I" } : MethodName)) ∈ zT := zT_of4 145 rfl rfl
theorem zw_866 : (Cond.instanceMethod ({ cls := "ChequeredCloth", name := "fault", desc := "(I)I" } : MethodName)) ∈ zT := zT_of4 146 rfl rfl
theorem zw_867 : (Cond.selects "ChequeredCloth" ({ cls := "ChequeredCloth", name := "fault", desc := "(I)I" } : MethodName) ({ cls := "ChequeredCloth", name := "fault", desc := "(I)I" } : MethodName)) ∈ zT := zT_of4 147 rfl rfl
theorem zw_868 : (Cond.code ({ cls := "ChequeredCloth", name := "fault", desc := "(I)I" } : MethodName) prog_1_method_19_code (2 : Nat) (Option.some FieldType.int)) ∈ zT := zT_of4 148 rfl rfl
theorem zw_869 : (Cond.methodLink "ChequeredCloth" (137 : Nat) ({ cls := "ChequeredCloth$Reader", name := "faultFound", desc := "()I" } : MethodName)) ∈ zT := zT_of4 149 rfl rfl
theorem zw_870 : (Cond.instanceMethod ({ cls := "ChequeredCloth$Reader", name := "faultFound", desc := "()I" } : MethodName)) ∈ zT := zT_of4 150 rfl rfl
theorem zw_871 : (Cond.selects "ChequeredCloth$Reader" ({ cls := "ChequeredCloth$Reader", name := "faultFound", desc := "()I" } : MethodName) ({ cls := "ChequeredCloth$Reader", name := "faultFound", desc := "()I" } : MethodName)) ∈ zT := zT_of4 151 rfl rfl
theorem zw_872 : (Cond.code ({ cls := "ChequeredCloth$Reader", name := "faultFound", desc := "()I" } : MethodName) prog_9_method_6_code (1 : Nat) (Option.some FieldType.int)) ∈ zT := zT_of4 152 rfl rfl
theorem zw_873 : (Cond.methodLink "ChequeredCloth" (140 : Nat) ({ cls := "ChequeredCloth$Reader", name := "faultPlace", desc := "()I" } : MethodName)) ∈ zT := zT_of4 153 rfl rfl
theorem zw_874 : (Cond.instanceMethod ({ cls := "ChequeredCloth$Reader", name := "faultPlace", desc := "()I" } : MethodName)) ∈ zT := zT_of4 154 rfl rfl
theorem zw_875 : (Cond.selects "ChequeredCloth$Reader" ({ cls := "ChequeredCloth$Reader", name := "faultPlace", desc := "()I" } : MethodName) ({ cls := "ChequeredCloth$Reader", name := "faultPlace", desc := "()I" } : MethodName)) ∈ zT := zT_of4 155 rfl rfl
theorem zw_876 : (Cond.code ({ cls := "ChequeredCloth$Reader", name := "faultPlace", desc := "()I" } : MethodName) prog_9_method_7_code (1 : Nat) (Option.some FieldType.int)) ∈ zT := zT_of4 156 rfl rfl
theorem zw_877 : (Cond.methodLink "ChequeredClothLaw" (95 : Nat) ({ cls := "ChequeredCloth", name := "force", desc := "(I)I" } : MethodName)) ∈ zT := zT_of4 157 rfl rfl
theorem zw_878 : (Cond.instanceMethod ({ cls := "ChequeredCloth", name := "force", desc := "(I)I" } : MethodName)) ∈ zT := zT_of4 158 rfl rfl
theorem zw_879 : (Cond.selects "ChequeredCloth" ({ cls := "ChequeredCloth", name := "force", desc := "(I)I" } : MethodName) ({ cls := "ChequeredCloth", name := "force", desc := "(I)I" } : MethodName)) ∈ zT := zT_of4 159 rfl rfl
theorem zw_880 : (Cond.code ({ cls := "ChequeredCloth", name := "force", desc := "(I)I" } : MethodName) prog_1_method_20_code (2 : Nat) (Option.some FieldType.int)) ∈ zT := zT_of4 160 rfl rfl
theorem zw_881 : (Cond.methodLink "ChequeredCloth" (143 : Nat) ({ cls := "ChequeredCloth", name := "presentAct", desc := "()I" } : MethodName)) ∈ zT := zT_of4 161 rfl rfl
theorem zw_883 : (Cond.instanceMethod ({ cls := "ChequeredCloth", name := "presentAct", desc := "()I" } : MethodName)) ∈ zT := zT_of4 163 rfl rfl
theorem zw_884 : (Cond.code ({ cls := "ChequeredCloth", name := "presentAct", desc := "()I" } : MethodName) prog_1_method_32_code (1 : Nat) (Option.some FieldType.int)) ∈ zT := zT_of4 164 rfl rfl
theorem zw_885 : (Cond.methodLink "ChequeredCloth" (162 : Nat) ({ cls := "ChequeredCloth$Acts", name := "size", desc := "()I" } : MethodName)) ∈ zT := zT_of4 165 rfl rfl
theorem zw_886 : (Cond.instanceMethod ({ cls := "ChequeredCloth$Acts", name := "size", desc := "()I" } : MethodName)) ∈ zT := zT_of4 166 rfl rfl
theorem zw_887 : (Cond.selects "ChequeredCloth$Acts" ({ cls := "ChequeredCloth$Acts", name := "size", desc := "()I" } : MethodName) ({ cls := "ChequeredCloth$Acts", name := "size", desc := "()I" } : MethodName)) ∈ zT := zT_of4 167 rfl rfl
theorem zw_888 : (Cond.code ({ cls := "ChequeredCloth$Acts", name := "size", desc := "()I" } : MethodName) prog_2_method_2_code (1 : Nat) (Option.some FieldType.int)) ∈ zT := zT_of4 168 rfl rfl
theorem zw_889 : (Cond.methodLink "ChequeredCloth" (146 : Nat) ({ cls := "ChequeredCloth$Audit", name := "statementsIn", desc := "(II)I" } : MethodName)) ∈ zT := zT_of4 169 rfl rfl
theorem zw_890 : (Cond.instanceMethod ({ cls := "ChequeredCloth$Audit", name := "statementsIn", desc := "(II)I" } : MethodName)) ∈ zT := zT_of4 170 rfl rfl
theorem zw_891 : (Cond.selects "ChequeredCloth$Audit" ({ cls := "ChequeredCloth$Audit", name := "statementsIn", desc := "(II)I" } : MethodName) ({ cls := "ChequeredCloth$Audit", name := "statementsIn", desc := "(II)I" } : MethodName)) ∈ zT := zT_of4 171 rfl rfl
theorem zw_892 : (Cond.code ({ cls := "ChequeredCloth$Audit", name := "statementsIn", desc := "(II)I" } : MethodName) prog_3_method_2_code (4 : Nat) (Option.some FieldType.int)) ∈ zT := zT_of4 172 rfl rfl
theorem zw_893 : (Cond.methodLink "ChequeredCloth$Audit" (60 : Nat) ({ cls := "ChequeredCloth$Audit", name := "knowAt", desc := "(I)V" } : MethodName)) ∈ zT := zT_of4 173 rfl rfl
theorem zw_895 : (Cond.instanceMethod ({ cls := "ChequeredCloth$Audit", name := "knowAt", desc := "(I)V" } : MethodName)) ∈ zT := zT_of4 175 rfl rfl
theorem zw_896 : (Cond.code ({ cls := "ChequeredCloth$Audit", name := "knowAt", desc := "(I)V" } : MethodName) prog_3_method_10_code (3 : Nat) (Option.none : Option FieldType)) ∈ zT := zT_of4 176 rfl rfl
theorem zw_897 : (Cond.methodLink "ChequeredCloth$Audit" (142 : Nat) ({ cls := "ChequeredCloth$Chest", name := "changeCount", desc := "()I" } : MethodName)) ∈ zT := zT_of4 177 rfl rfl
theorem zw_898 : (Cond.instanceMethod ({ cls := "ChequeredCloth$Chest", name := "changeCount", desc := "()I" } : MethodName)) ∈ zT := zT_of4 178 rfl rfl
theorem zw_899 : (Cond.selects "ChequeredCloth$Chest" ({ cls := "ChequeredCloth$Chest", name := "changeCount", desc := "()I" } : MethodName) ({ cls := "ChequeredCloth$Chest", name := "changeCount", desc := "()I" } : MethodName)) ∈ zT := zT_of4 179 rfl rfl
theorem zw_900 : (Cond.code ({ cls := "ChequeredCloth$Chest", name := "changeCount", desc := "()I" } : MethodName) prog_4_method_11_code (1 : Nat) (Option.some FieldType.int)) ∈ zT := zT_of4 180 rfl rfl
theorem zw_901 : (Cond.methodLink "ChequeredCloth$Audit" (147 : Nat) ({ cls := "ChequeredCloth$Chest", name := "matchAll", desc := "()V" } : MethodName)) ∈ zT := zT_of4 181 rfl rfl
theorem zw_902 : (Cond.methodLink "ChequeredCloth$Audit" (105 : Nat) ({ cls := "ChequeredCloth$Known", name := "setAt", desc := "(II)V" } : MethodName)) ∈ zT := zT_of4 182 rfl rfl
theorem zw_903 : (Cond.instanceMethod ({ cls := "ChequeredCloth$Known", name := "setAt", desc := "(II)V" } : MethodName)) ∈ zT := zT_of4 183 rfl rfl
theorem zw_904 : (Cond.selects "ChequeredCloth$Known" ({ cls := "ChequeredCloth$Known", name := "setAt", desc := "(II)V" } : MethodName) ({ cls := "ChequeredCloth$Known", name := "setAt", desc := "(II)V" } : MethodName)) ∈ zT := zT_of4 184 rfl rfl
theorem zw_905 : (Cond.code ({ cls := "ChequeredCloth$Known", name := "setAt", desc := "(II)V" } : MethodName) prog_7_method_2_code (4 : Nat) (Option.none : Option FieldType)) ∈ zT := zT_of4 185 rfl rfl
theorem zw_906 : (Cond.methodLink "ChequeredCloth$Known" (28 : Nat) ({ cls := "java/util/Arrays", name := "fill", desc := "([II)V" } : MethodName)) ∈ zT := zT_of4 186 rfl rfl
theorem zw_907 : (Cond.methodLink "ChequeredCloth$Known" (34 : Nat) ({ cls := "ChequeredCloth$Acts", name := "size", desc := "()I" } : MethodName)) ∈ zT := zT_of4 187 rfl rfl
theorem zw_908 : (Cond.methodLink "ChequeredCloth$Known" (40 : Nat) ({ cls := "java/lang/Math", name := "min", desc := "(II)I" } : MethodName)) ∈ zT := zT_of4 188 rfl rfl
theorem zw_909 : (Cond.methodLink "ChequeredCloth$Known" (46 : Nat) ({ cls := "ChequeredCloth$Acts", name := "isKnown", desc := "(II)Z" } : MethodName)) ∈ zT := zT_of4 189 rfl rfl
theorem zw_910 : (Cond.instanceMethod ({ cls := "ChequeredCloth$Acts", name := "isKnown", desc := "(II)Z" } : MethodName)) ∈ zT := zT_of4 190 rfl rfl
theorem zw_911 : (Cond.selects "ChequeredCloth$Acts" ({ cls := "ChequeredCloth$Acts", name := "isKnown", desc := "(II)Z" } : MethodName) ({ cls := "ChequeredCloth$Acts", name := "isKnown", desc := "(II)Z" } : MethodName)) ∈ zT := zT_of4 191 rfl rfl
theorem zw_912 : (Cond.code ({ cls := "ChequeredCloth$Acts", name := "isKnown", desc := "(II)Z" } : MethodName) prog_2_method_10_code (3 : Nat) (Option.some FieldType.boolean)) ∈ zT := zT_of4 192 rfl rfl
theorem zw_913 : (Cond.methodLink "ChequeredCloth$Acts" (48 : Nat) ({ cls := "ChequeredCloth$Acts", name := "isAct", desc := "(I)Z" } : MethodName)) ∈ zT := zT_of4 193 rfl rfl
theorem zw_914 : (Cond.instanceMethod ({ cls := "ChequeredCloth$Acts", name := "isAct", desc := "(I)Z" } : MethodName)) ∈ zT := zT_of4 194 rfl rfl
theorem zw_915 : (Cond.selects "ChequeredCloth$Acts" ({ cls := "ChequeredCloth$Acts", name := "isAct", desc := "(I)Z" } : MethodName) ({ cls := "ChequeredCloth$Acts", name := "isAct", desc := "(I)Z" } : MethodName)) ∈ zT := zT_of4 195 rfl rfl
theorem zw_916 : (Cond.code ({ cls := "ChequeredCloth$Acts", name := "isAct", desc := "(I)Z" } : MethodName) prog_2_method_8_code (2 : Nat) (Option.some FieldType.boolean)) ∈ zT := zT_of4 196 rfl rfl
theorem zw_917 : (Cond.methodLink "ChequeredCloth$Known" (53 : Nat) ({ cls := "ChequeredCloth$Known", name := "note", desc := "(II)V" } : MethodName)) ∈ zT := zT_of4 197 rfl rfl
theorem zw_919 : (Cond.instanceMethod ({ cls := "ChequeredCloth$Known", name := "note", desc := "(II)V" } : MethodName)) ∈ zT := zT_of4 199 rfl rfl
theorem zw_920 : (Cond.code ({ cls := "ChequeredCloth$Known", name := "note", desc := "(II)V" } : MethodName) prog_7_method_9_code (3 : Nat) (Option.none : Option FieldType)) ∈ zT := zT_of4 200 rfl rfl
theorem zw_922 : (Cond.methodLink "ChequeredCloth$Known" (77 : Nat) ({ cls := "java/lang/Math", name := "max", desc := "(II)I" } : MethodName)) ∈ zT := zT_of4 202 rfl rfl
theorem zw_923 : (Cond.static ({ cls := "java/lang/Math", name := "max", desc := "(II)I" } : MethodName)) ∈ zT := zT_of4 203 rfl rfl
theorem zw_924 : (Cond.code ({ cls := "java/lang/Math", name := "max", desc := "(II)I" } : MethodName) prog_16_method_65_code (2 : Nat) (Option.some FieldType.int)) ∈ zT := zT_of4 204 rfl rfl
theorem zw_925 : (Cond.methodLink "ChequeredCloth$Known" (80 : Nat) ({ cls := "ChequeredCloth$Known", name := "addPayment", desc := "(II)V" } : MethodName)) ∈ zT := zT_of4 205 rfl rfl
theorem zw_926 : (Cond.instanceMethod ({ cls := "ChequeredCloth$Known", name := "addPayment", desc := "(II)V" } : MethodName)) ∈ zT := zT_of4 206 rfl rfl
theorem zw_927 : (Cond.selects "ChequeredCloth$Known" ({ cls := "ChequeredCloth$Known", name := "addPayment", desc := "(II)V" } : MethodName) ({ cls := "ChequeredCloth$Known", name := "addPayment", desc := "(II)V" } : MethodName)) ∈ zT := zT_of4 207 rfl rfl
theorem zw_928 : (Cond.code ({ cls := "ChequeredCloth$Known", name := "addPayment", desc := "(II)V" } : MethodName) prog_7_method_7_code (3 : Nat) (Option.none : Option FieldType)) ∈ zT := zT_of4 208 rfl rfl
theorem zw_929 : (Cond.methodLink "ChequeredCloth$Known" (67 : Nat) ({ cls := "ChequeredCloth$Acts", name := "isPayment", desc := "(I)Z" } : MethodName)) ∈ zT := zT_of4 209 rfl rfl
theorem zw_930 : (Cond.instanceMethod ({ cls := "ChequeredCloth$Acts", name := "isPayment", desc := "(I)Z" } : MethodName)) ∈ zT := zT_of4 210 rfl rfl
theorem zw_931 : (Cond.selects "ChequeredCloth$Acts" ({ cls := "ChequeredCloth$Acts", name := "isPayment", desc := "(I)Z" } : MethodName) ({ cls := "ChequeredCloth$Acts", name := "isPayment", desc := "(I)Z" } : MethodName)) ∈ zT := zT_of4 211 rfl rfl
theorem zw_932 : (Cond.code ({ cls := "ChequeredCloth$Acts", name := "isPayment", desc := "(I)Z" } : MethodName) prog_2_method_9_code (2 : Nat) (Option.some FieldType.boolean)) ∈ zT := zT_of4 212 rfl rfl
theorem zw_933 : (Cond.methodLink "ChequeredCloth$Audit" (150 : Nat) ({ cls := "ChequeredCloth$Roll", name := "begin", desc := "(I)V" } : MethodName)) ∈ zT := zT_of4 213 rfl rfl
theorem zw_934 : (Cond.instanceMethod ({ cls := "ChequeredCloth$Roll", name := "begin", desc := "(I)V" } : MethodName)) ∈ zT := zT_of4 214 rfl rfl
theorem zw_935 : (Cond.selects "ChequeredCloth$Roll" ({ cls := "ChequeredCloth$Roll", name := "begin", desc := "(I)V" } : MethodName) ({ cls := "ChequeredCloth$Roll", name := "begin", desc := "(I)V" } : MethodName)) ∈ zT := zT_of4 215 rfl rfl
theorem zw_936 : (Cond.code ({ cls := "ChequeredCloth$Roll", name := "begin", desc := "(I)V" } : MethodName) prog_10_method_2_code (2 : Nat) (Option.none : Option FieldType)) ∈ zT := zT_of4 216 rfl rfl
theorem zw_937 : (Cond.methodLink "ChequeredCloth$Audit" (64 : Nat) ({ cls := "ChequeredCloth$Known", name := "writOf", desc := "(I)LChequeredCloth$Writ;" } : MethodName)) ∈ zT := zT_of4 217 rfl rfl
theorem zw_938 : (Cond.instanceMethod ({ cls := "ChequeredCloth$Known", name := "writOf", desc := "(I)LChequeredCloth$Writ;" } : MethodName)) ∈ zT := zT_of4 218 rfl rfl
theorem zw_939 : (Cond.selects "ChequeredCloth$Known" ({ cls := "ChequeredCloth$Known", name := "writOf", desc := "(I)LChequeredCloth$Writ;" } : MethodName) ({ cls := "ChequeredCloth$Known", name := "writOf", desc := "(I)LChequeredCloth$Writ;" } : MethodName)) ∈ zT := zT_of4 219 rfl rfl
theorem zw_940 : (Cond.code ({ cls := "ChequeredCloth$Known", name := "writOf", desc := "(I)LChequeredCloth$Writ;" } : MethodName) prog_7_method_3_code (2 : Nat) (Option.some (FieldType.object "ChequeredCloth$Writ"))) ∈ zT := zT_of4 220 rfl rfl
theorem zw_941 : (Cond.methodLink "ChequeredClothLaw" (99 : Nat) ({ cls := "ChequeredCloth", name := "pays", desc := "(III)I" } : MethodName)) ∈ zT := zT_of4 221 rfl rfl
theorem zw_942 : (Cond.instanceMethod ({ cls := "ChequeredCloth", name := "pays", desc := "(III)I" } : MethodName)) ∈ zT := zT_of4 222 rfl rfl
theorem zw_943 : (Cond.selects "ChequeredCloth" ({ cls := "ChequeredCloth", name := "pays", desc := "(III)I" } : MethodName) ({ cls := "ChequeredCloth", name := "pays", desc := "(III)I" } : MethodName)) ∈ zT := zT_of4 223 rfl rfl
theorem zw_944 : (Cond.code ({ cls := "ChequeredCloth", name := "pays", desc := "(III)I" } : MethodName) prog_1_method_21_code (5 : Nat) (Option.some FieldType.int)) ∈ zT := zT_of4 224 rfl rfl
theorem zw_945 : (Cond.methodLink "ChequeredCloth" (149 : Nat) ({ cls := "ChequeredCloth", name := "isShire", desc := "(I)Z" } : MethodName)) ∈ zT := zT_of4 225 rfl rfl
theorem zw_946 : (Cond.static ({ cls := "ChequeredCloth", name := "isShire", desc := "(I)Z" } : MethodName)) ∈ zT := zT_of4 226 rfl rfl
theorem zw_947 : (Cond.code ({ cls := "ChequeredCloth", name := "isShire", desc := "(I)Z" } : MethodName) prog_1_method_34_code (1 : Nat) (Option.some FieldType.boolean)) ∈ zT := zT_of4 227 rfl rfl
theorem zw_948 : (Cond.constant "ChequeredCloth" (152 : Nat) (1000000 : Int32)) ∈ zT := zT_of4 228 rfl rfl
theorem zw_949 : (Cond.methodLink "ChequeredCloth" (153 : Nat) ({ cls := "ChequeredCloth$Acts", name := "addPayment", desc := "(IIII)I" } : MethodName)) ∈ zT := zT_of4 229 rfl rfl
theorem zw_950 : (Cond.instanceMethod ({ cls := "ChequeredCloth$Acts", name := "addPayment", desc := "(IIII)I" } : MethodName)) ∈ zT := zT_of4 230 rfl rfl
theorem zw_951 : (Cond.selects "ChequeredCloth$Acts" ({ cls := "ChequeredCloth$Acts", name := "addPayment", desc := "(IIII)I" } : MethodName) ({ cls := "ChequeredCloth$Acts", name := "addPayment", desc := "(IIII)I" } : MethodName)) ∈ zT := zT_of4 231 rfl rfl
theorem zw_952 : (Cond.code ({ cls := "ChequeredCloth$Acts", name := "addPayment", desc := "(IIII)I" } : MethodName) prog_2_method_6_code (5 : Nat) (Option.some FieldType.int)) ∈ zT := zT_of4 232 rfl rfl
theorem zw_953 : (Cond.methodLink "ChequeredClothLaw" (104 : Nat) ({ cls := "ChequeredCloth", name := "tally", desc := "(III)I" } : MethodName)) ∈ zT := zT_of4 233 rfl rfl
theorem zw_954 : (Cond.instanceMethod ({ cls := "ChequeredCloth", name := "tally", desc := "(III)I" } : MethodName)) ∈ zT := zT_of4 234 rfl rfl
theorem zw_955 : (Cond.selects "ChequeredCloth" ({ cls := "ChequeredCloth", name := "tally", desc := "(III)I" } : MethodName) ({ cls := "ChequeredCloth", name := "tally", desc := "(III)I" } : MethodName)) ∈ zT := zT_of4 235 rfl rfl
theorem zw_956 : (Cond.code ({ cls := "ChequeredCloth", name := "tally", desc := "(III)I" } : MethodName) prog_1_method_22_code (5 : Nat) (Option.some FieldType.int)) ∈ zT := zT_of4 236 rfl rfl
theorem zw_957 : (Cond.methodLink "ChequeredClothLaw" (108 : Nat) ({ cls := "ChequeredCloth", name := "fire", desc := "(II)I" } : MethodName)) ∈ zT := zT_of4 237 rfl rfl
theorem zw_958 : (Cond.instanceMethod ({ cls := "ChequeredCloth", name := "fire", desc := "(II)I" } : MethodName)) ∈ zT := zT_of4 238 rfl rfl
theorem zw_959 : (Cond.selects "ChequeredCloth" ({ cls := "ChequeredCloth", name := "fire", desc := "(II)I" } : MethodName) ({ cls := "ChequeredCloth", name := "fire", desc := "(II)I" } : MethodName)) ∈ zT := zT_of4 239 rfl rfl
theorem zw_960 : (Cond.code ({ cls := "ChequeredCloth", name := "fire", desc := "(II)I" } : MethodName) prog_1_method_23_code (4 : Nat) (Option.some FieldType.int)) ∈ zT := zT_of5 0 rfl rfl
theorem zw_961 : (Cond.methodLink "ChequeredCloth" (157 : Nat) ({ cls := "ChequeredCloth$Acts", name := "add", desc := "(IIII)I" } : MethodName)) ∈ zT := zT_of5 1 rfl rfl
theorem zw_962 : (Cond.methodLink "ChequeredClothLaw" (112 : Nat) ({ cls := "ChequeredCloth", name := "annul", desc := "(I)I" } : MethodName)) ∈ zT := zT_of5 2 rfl rfl
theorem zw_963 : (Cond.instanceMethod ({ cls := "ChequeredCloth", name := "annul", desc := "(I)I" } : MethodName)) ∈ zT := zT_of5 3 rfl rfl
theorem zw_964 : (Cond.selects "ChequeredCloth" ({ cls := "ChequeredCloth", name := "annul", desc := "(I)I" } : MethodName) ({ cls := "ChequeredCloth", name := "annul", desc := "(I)I" } : MethodName)) ∈ zT := zT_of5 4 rfl rfl
theorem zw_965 : (Cond.code ({ cls := "ChequeredCloth", name := "annul", desc := "(I)I" } : MethodName) prog_1_method_24_code (2 : Nat) (Option.some FieldType.int)) ∈ zT := zT_of5 5 rfl rfl
theorem zw_966 : (Cond.methodLink "ChequeredCloth" (159 : Nat) ({ cls := "ChequeredCloth$Acts", name := "addVoid", desc := "(I)I" } : MethodName)) ∈ zT := zT_of5 6 rfl rfl
theorem zw_967 : (Cond.instanceMethod ({ cls := "ChequeredCloth$Acts", name := "addVoid", desc := "(I)I" } : MethodName)) ∈ zT := zT_of5 7 rfl rfl
theorem zw_968 : (Cond.selects "ChequeredCloth$Acts" ({ cls := "ChequeredCloth$Acts", name := "addVoid", desc := "(I)I" } : MethodName) ({ cls := "ChequeredCloth$Acts", name := "addVoid", desc := "(I)I" } : MethodName)) ∈ zT := zT_of5 8 rfl rfl
theorem zw_969 : (Cond.code ({ cls := "ChequeredCloth$Acts", name := "addVoid", desc := "(I)I" } : MethodName) prog_2_method_7_code (2 : Nat) (Option.some FieldType.int)) ∈ zT := zT_of5 9 rfl rfl
theorem zw_970 : (Cond.methodLink "ChequeredClothLaw" (116 : Nat) ({ cls := "ChequeredCloth", name := "as", desc := "(I)Z" } : MethodName)) ∈ zT := zT_of5 10 rfl rfl
theorem zw_971 : (Cond.instanceMethod ({ cls := "ChequeredCloth", name := "as", desc := "(I)Z" } : MethodName)) ∈ zT := zT_of5 11 rfl rfl
theorem zw_972 : (Cond.selects "ChequeredCloth" ({ cls := "ChequeredCloth", name := "as", desc := "(I)Z" } : MethodName) ({ cls := "ChequeredCloth", name := "as", desc := "(I)Z" } : MethodName)) ∈ zT := zT_of5 12 rfl rfl
theorem zw_973 : (Cond.code ({ cls := "ChequeredCloth", name := "as", desc := "(I)Z" } : MethodName) prog_1_method_25_code (2 : Nat) (Option.some FieldType.boolean)) ∈ zT := zT_of5 13 rfl rfl
theorem zw_974 : (Cond.methodLink "ChequeredClothLaw" (120 : Nat) ({ cls := "ChequeredCloth", name := "roll", desc := "(III)J" } : MethodName)) ∈ zT := zT_of5 14 rfl rfl
theorem zw_975 : (Cond.instanceMethod ({ cls := "ChequeredCloth", name := "roll", desc := "(III)J" } : MethodName)) ∈ zT := zT_of5 15 rfl rfl
theorem zw_976 : (Cond.selects "ChequeredCloth" ({ cls := "ChequeredCloth", name := "roll", desc := "(III)J" } : MethodName) ({ cls := "ChequeredCloth", name := "roll", desc := "(III)J" } : MethodName)) ∈ zT := zT_of5 16 rfl rfl
theorem zw_977 : (Cond.code ({ cls := "ChequeredCloth", name := "roll", desc := "(III)J" } : MethodName) prog_1_method_26_code (4 : Nat) (Option.some FieldType.long)) ∈ zT := zT_of5 17 rfl rfl
theorem zw_978 : (Cond.constantLong "ChequeredCloth" (165 : Nat) (-2000000000000 : Int64)) ∈ zT := zT_of5 18 rfl rfl
theorem zw_979 : (Cond.methodLink "ChequeredCloth" (167 : Nat) ({ cls := "ChequeredCloth$Audit", name := "rollOf", desc := "(III)LChequeredCloth$Roll;" } : MethodName)) ∈ zT := zT_of5 19 rfl rfl
theorem zw_980 : (Cond.instanceMethod ({ cls := "ChequeredCloth$Audit", name := "rollOf", desc := "(III)LChequeredCloth$Roll;" } : MethodName)) ∈ zT := zT_of5 20 rfl rfl
theorem zw_981 : (Cond.selects "ChequeredCloth$Audit" ({ cls := "ChequeredCloth$Audit", name := "rollOf", desc := "(III)LChequeredCloth$Roll;" } : MethodName) ({ cls := "ChequeredCloth$Audit", name := "rollOf", desc := "(III)LChequeredCloth$Roll;" } : MethodName)) ∈ zT := zT_of5 21 rfl rfl
theorem zw_982 : (Cond.code ({ cls := "ChequeredCloth$Audit", name := "rollOf", desc := "(III)LChequeredCloth$Roll;" } : MethodName) prog_3_method_3_code (5 : Nat) (Option.some (FieldType.object "ChequeredCloth$Roll"))) ∈ zT := zT_of5 22 rfl rfl
theorem zw_984 : (Cond.methodLink "ChequeredCloth$Audit" (78 : Nat) ({ cls := "ChequeredCloth$Roll", name := "goTo", desc := "(I)V" } : MethodName)) ∈ zT := zT_of5 24 rfl rfl
theorem zw_985 : (Cond.instanceMethod ({ cls := "ChequeredCloth$Roll", name := "goTo", desc := "(I)V" } : MethodName)) ∈ zT := zT_of5 25 rfl rfl
theorem zw_986 : (Cond.selects "ChequeredCloth$Roll" ({ cls := "ChequeredCloth$Roll", name := "goTo", desc := "(I)V" } : MethodName) ({ cls := "ChequeredCloth$Roll", name := "goTo", desc := "(I)V" } : MethodName)) ∈ zT := zT_of5 26 rfl rfl
theorem zw_987 : (Cond.code ({ cls := "ChequeredCloth$Roll", name := "goTo", desc := "(I)V" } : MethodName) prog_10_method_5_code (4 : Nat) (Option.none : Option FieldType)) ∈ zT := zT_of5 27 rfl rfl
theorem zw_988 : (Cond.methodLink "ChequeredCloth$Roll" (68 : Nat) ({ cls := "ChequeredCloth$Known", name := "writOf", desc := "(I)LChequeredCloth$Writ;" } : MethodName)) ∈ zT := zT_of5 28 rfl rfl
theorem zw_989 : (Cond.methodLink "ChequeredCloth$Roll" (82 : Nat) ({ cls := "ChequeredCloth$Roll", name := "comeDue", desc := "(I)V" } : MethodName)) ∈ zT := zT_of5 29 rfl rfl
theorem zw_991 : (Cond.instanceMethod ({ cls := "ChequeredCloth$Roll", name := "comeDue", desc := "(I)V" } : MethodName)) ∈ zT := zT_of5 31 rfl rfl
theorem zw_992 : (Cond.code ({ cls := "ChequeredCloth$Roll", name := "comeDue", desc := "(I)V" } : MethodName) prog_10_method_11_code (4 : Nat) (Option.none : Option FieldType)) ∈ zT := zT_of5 32 rfl rfl
theorem zw_993 : (Cond.methodLink "ChequeredCloth$Roll" (62 : Nat) ({ cls := "java/lang/System", name := "arraycopy", desc := "(Ljava/lang/Object;ILjava/lang/Object;II)V" } : MethodName)) ∈ zT := zT_of5 33 rfl rfl
theorem zw_994 : (Cond.methodLink "ChequeredCloth$Roll" (88 : Nat) ({ cls := "ChequeredCloth$Roll", name := "reckon", desc := "(LChequeredCloth$Writ;II)J" } : MethodName)) ∈ zT := zT_of5 34 rfl rfl
theorem zw_996 : (Cond.instanceMethod ({ cls := "ChequeredCloth$Roll", name := "reckon", desc := "(LChequeredCloth$Writ;II)J" } : MethodName)) ∈ zT := zT_of5 36 rfl rfl
theorem zw_997 : (Cond.code ({ cls := "ChequeredCloth$Roll", name := "reckon", desc := "(LChequeredCloth$Writ;II)J" } : MethodName) prog_10_method_12_code (12 : Nat) (Option.some FieldType.long)) ∈ zT := zT_of5 37 rfl rfl
theorem zw_998 : (Cond.methodLink "ChequeredCloth$Roll" (121 : Nat) ({ cls := "ChequeredCloth$Judge", name := "setMoment", desc := "(IIJJ)V" } : MethodName)) ∈ zT := zT_of5 38 rfl rfl
theorem zw_999 : (Cond.instanceMethod ({ cls := "ChequeredCloth$Judge", name := "setMoment", desc := "(IIJJ)V" } : MethodName)) ∈ zT := zT_of5 39 rfl rfl
theorem zw_1000 : (Cond.selects "ChequeredCloth$Judge" ({ cls := "ChequeredCloth$Judge", name := "setMoment", desc := "(IIJJ)V" } : MethodName) ({ cls := "ChequeredCloth$Judge", name := "setMoment", desc := "(IIJJ)V" } : MethodName)) ∈ zT := zT_of5 40 rfl rfl
theorem zw_1001 : (Cond.code ({ cls := "ChequeredCloth$Judge", name := "setMoment", desc := "(IIJJ)V" } : MethodName) prog_6_method_2_code (7 : Nat) (Option.none : Option FieldType)) ∈ zT := zT_of5 41 rfl rfl
theorem zw_1002 : (Cond.constantLong "ChequeredCloth$Judge" (20 : Nat) (1000000000 : Int64)) ∈ zT := zT_of5 42 rfl rfl
theorem zw_1003 : (Cond.constantLong "ChequeredCloth$Judge" (22 : Nat) (-1000000000 : Int64)) ∈ zT := zT_of5 43 rfl rfl
theorem zw_1004 : (Cond.methodLink "ChequeredCloth$Judge" (24 : Nat) ({ cls := "java/lang/Math", name := "max", desc := "(JJ)J" } : MethodName)) ∈ zT := zT_of5 44 rfl rfl
theorem zw_1005 : (Cond.static ({ cls := "java/lang/Math", name := "max", desc := "(JJ)J" } : MethodName)) ∈ zT := zT_of5 45 rfl rfl
theorem zw_1006 : (Cond.code ({ cls := "java/lang/Math", name := "max", desc := "(JJ)J" } : MethodName) prog_16_method_66_code (4 : Nat) (Option.some FieldType.long)) ∈ zT := zT_of5 46 rfl rfl
theorem zw_1007 : (Cond.methodLink "ChequeredCloth$Judge" (30 : Nat) ({ cls := "java/lang/Math", name := "min", desc := "(JJ)J" } : MethodName)) ∈ zT := zT_of5 47 rfl rfl
theorem zw_1008 : (Cond.static ({ cls := "java/lang/Math", name := "min", desc := "(JJ)J" } : MethodName)) ∈ zT := zT_of5 48 rfl rfl
theorem zw_1009 : (Cond.code ({ cls := "java/lang/Math", name := "min", desc := "(JJ)J" } : MethodName) prog_16_method_70_code (4 : Nat) (Option.some FieldType.long)) ∈ zT := zT_of5 49 rfl rfl
theorem zw_1010 : (Cond.methodLink "ChequeredCloth$Roll" (137 : Nat) ({ cls := "ChequeredCloth$Judge", name := "valueOf", desc := "([III)J" } : MethodName)) ∈ zT := zT_of5 50 rfl rfl
theorem zw_1011 : (Cond.instanceMethod ({ cls := "ChequeredCloth$Judge", name := "valueOf", desc := "([III)J" } : MethodName)) ∈ zT := zT_of5 51 rfl rfl
theorem zw_1012 : (Cond.selects "ChequeredCloth$Judge" ({ cls := "ChequeredCloth$Judge", name := "valueOf", desc := "([III)J" } : MethodName) ({ cls := "ChequeredCloth$Judge", name := "valueOf", desc := "([III)J" } : MethodName)) ∈ zT := zT_of5 52 rfl rfl
theorem zw_1013 : (Cond.code ({ cls := "ChequeredCloth$Judge", name := "valueOf", desc := "([III)J" } : MethodName) prog_6_method_3_code (7 : Nat) (Option.some FieldType.long)) ∈ zT := zT_of5 53 rfl rfl
theorem zw_1014 : (Cond.methodLink "ChequeredCloth$Judge" (40 : Nat) ({ cls := "java/lang/Math", name := "max", desc := "(II)I" } : MethodName)) ∈ zT := zT_of5 54 rfl rfl
theorem zw_1015 : (Cond.methodLink "ChequeredCloth$Judge" (43 : Nat) ({ cls := "ChequeredCloth$Judge", name := "present", desc := "(I)J" } : MethodName)) ∈ zT := zT_of5 55 rfl rfl
theorem zw_1017 : (Cond.instanceMethod ({ cls := "ChequeredCloth$Judge", name := "present", desc := "(I)J" } : MethodName)) ∈ zT := zT_of5 57 rfl rfl
theorem zw_1018 : (Cond.code ({ cls := "ChequeredCloth$Judge", name := "present", desc := "(I)J" } : MethodName) prog_6_method_4_code (2 : Nat) (Option.some FieldType.long)) ∈ zT := zT_of5 58 rfl rfl
theorem zw_1019 : (Cond.methodLink "ChequeredCloth$Judge" (47 : Nat) ({ cls := "ChequeredCloth$Judge", name := "together", desc := "(IJJ)J" } : MethodName)) ∈ zT := zT_of5 59 rfl rfl
theorem zw_1020 : (Cond.static ({ cls := "ChequeredCloth$Judge", name := "together", desc := "(IJJ)J" } : MethodName)) ∈ zT := zT_of5 60 rfl rfl
theorem zw_1021 : (Cond.code ({ cls := "ChequeredCloth$Judge", name := "together", desc := "(IJJ)J" } : MethodName) prog_6_method_5_code (5 : Nat) (Option.some FieldType.long)) ∈ zT := zT_of5 61 rfl rfl
theorem zw_1022 : (Cond.methodLink "ChequeredCloth$Judge" (51 : Nat) ({ cls := "java/lang/Math", name := "floorDiv", desc := "(JJ)J" } : MethodName)) ∈ zT := zT_of5 62 rfl rfl
theorem zw_1023 : (Cond.static ({ cls := "java/lang/Math", name := "floorDiv", desc := "(JJ)J" } : MethodName)) ∈ zT := zT_of5 63 rfl rfl
theorem zw_1024 : (Cond.code ({ cls := "java/lang/Math", name := "floorDiv", desc := "(JJ)J" } : MethodName) prog_16_method_49_code (6 : Nat) (Option.some FieldType.long)) ∈ zT := zT_of5 64 rfl rfl
theorem zw_1025 : (Cond.methodLink "ChequeredCloth$Roll" (141 : Nat) ({ cls := "ChequeredCloth$Roll", name := "pardoned", desc := "(LChequeredCloth$Statement;)J" } : MethodName)) ∈ zT := zT_of5 65 rfl rfl
theorem zw_1027 : (Cond.instanceMethod ({ cls := "ChequeredCloth$Roll", name := "pardoned", desc := "(LChequeredCloth$Statement;)J" } : MethodName)) ∈ zT := zT_of5 67 rfl rfl
theorem zw_1028 : (Cond.code ({ cls := "ChequeredCloth$Roll", name := "pardoned", desc := "(LChequeredCloth$Statement;)J" } : MethodName) prog_10_method_13_code (3 : Nat) (Option.some FieldType.long)) ∈ zT := zT_of5 68 rfl rfl
theorem zw_1029 : (Cond.methodLink "ChequeredCloth$Roll" (148 : Nat) ({ cls := "java/lang/Math", name := "max", desc := "(JJ)J" } : MethodName)) ∈ zT := zT_of5 69 rfl rfl
theorem zw_1030 : (Cond.methodLink "ChequeredCloth$Roll" (92 : Nat) ({ cls := "ChequeredCloth$Roll", name := "takeIn", desc := "(I)V" } : MethodName)) ∈ zT := zT_of5 70 rfl rfl
theorem zw_1032 : (Cond.instanceMethod ({ cls := "ChequeredCloth$Roll", name := "takeIn", desc := "(I)V" } : MethodName)) ∈ zT := zT_of5 72 rfl rfl
theorem zw_1033 : (Cond.code ({ cls := "ChequeredCloth$Roll", name := "takeIn", desc := "(I)V" } : MethodName) prog_10_method_14_code (4 : Nat) (Option.none : Option FieldType)) ∈ zT := zT_of5 73 rfl rfl
theorem zw_1034 : (Cond.methodLink "ChequeredCloth$Roll" (158 : Nat) ({ cls := "ChequeredCloth$Known", name := "firstPayment", desc := "(I)I" } : MethodName)) ∈ zT := zT_of5 74 rfl rfl
theorem zw_1035 : (Cond.instanceMethod ({ cls := "ChequeredCloth$Known", name := "firstPayment", desc := "(I)I" } : MethodName)) ∈ zT := zT_of5 75 rfl rfl
theorem zw_1036 : (Cond.selects "ChequeredCloth$Known" ({ cls := "ChequeredCloth$Known", name := "firstPayment", desc := "(I)I" } : MethodName) ({ cls := "ChequeredCloth$Known", name := "firstPayment", desc := "(I)I" } : MethodName)) ∈ zT := zT_of5 76 rfl rfl
theorem zw_1037 : (Cond.code ({ cls := "ChequeredCloth$Known", name := "firstPayment", desc := "(I)I" } : MethodName) prog_7_method_5_code (2 : Nat) (Option.some FieldType.int)) ∈ zT := zT_of5 77 rfl rfl
theorem zw_1038 : (Cond.methodLink "ChequeredCloth$Roll" (162 : Nat) ({ cls := "ChequeredCloth$Acts", name := "isPayment", desc := "(I)Z" } : MethodName)) ∈ zT := zT_of5 78 rfl rfl
theorem zw_1039 : (Cond.methodLink "ChequeredCloth$Roll" (170 : Nat) ({ cls := "ChequeredCloth$Roll", name := "worthOf", desc := "(II)J" } : MethodName)) ∈ zT := zT_of5 79 rfl rfl
theorem zw_1041 : (Cond.instanceMethod ({ cls := "ChequeredCloth$Roll", name := "worthOf", desc := "(II)J" } : MethodName)) ∈ zT := zT_of5 81 rfl rfl
theorem zw_1042 : (Cond.code ({ cls := "ChequeredCloth$Roll", name := "worthOf", desc := "(II)J" } : MethodName) prog_10_method_15_code (4 : Nat) (Option.some FieldType.long)) ∈ zT := zT_of5 82 rfl rfl
theorem zw_1043 : (Cond.methodLink "ChequeredCloth$Roll" (183 : Nat) ({ cls := "ChequeredCloth$Chest", name := "goodWorth", desc := "(I)I" } : MethodName)) ∈ zT := zT_of5 83 rfl rfl
theorem zw_1044 : (Cond.instanceMethod ({ cls := "ChequeredCloth$Chest", name := "goodWorth", desc := "(I)I" } : MethodName)) ∈ zT := zT_of5 84 rfl rfl
theorem zw_1045 : (Cond.selects "ChequeredCloth$Chest" ({ cls := "ChequeredCloth$Chest", name := "goodWorth", desc := "(I)I" } : MethodName) ({ cls := "ChequeredCloth$Chest", name := "goodWorth", desc := "(I)I" } : MethodName)) ∈ zT := zT_of5 85 rfl rfl
theorem zw_1046 : (Cond.code ({ cls := "ChequeredCloth$Chest", name := "goodWorth", desc := "(I)I" } : MethodName) prog_4_method_17_code (2 : Nat) (Option.some FieldType.int)) ∈ zT := zT_of5 86 rfl rfl
theorem zw_1047 : (Cond.methodLink "ChequeredCloth$Roll" (188 : Nat) ({ cls := "ChequeredCloth$Known", name := "fireOf", desc := "(I)I" } : MethodName)) ∈ zT := zT_of5 87 rfl rfl
theorem zw_1048 : (Cond.instanceMethod ({ cls := "ChequeredCloth$Known", name := "fireOf", desc := "(I)I" } : MethodName)) ∈ zT := zT_of5 88 rfl rfl
theorem zw_1049 : (Cond.selects "ChequeredCloth$Known" ({ cls := "ChequeredCloth$Known", name := "fireOf", desc := "(I)I" } : MethodName) ({ cls := "ChequeredCloth$Known", name := "fireOf", desc := "(I)I" } : MethodName)) ∈ zT := zT_of5 89 rfl rfl
theorem zw_1050 : (Cond.code ({ cls := "ChequeredCloth$Known", name := "fireOf", desc := "(I)I" } : MethodName) prog_7_method_4_code (2 : Nat) (Option.some FieldType.int)) ∈ zT := zT_of5 90 rfl rfl
theorem zw_1051 : (Cond.constantLong "ChequeredCloth$Roll" (191 : Nat) (240 : Int64)) ∈ zT := zT_of5 91 rfl rfl
theorem zw_1052 : (Cond.methodLink "ChequeredCloth$Roll" (174 : Nat) ({ cls := "ChequeredCloth$Known", name := "nextPayment", desc := "(I)I" } : MethodName)) ∈ zT := zT_of5 92 rfl rfl
theorem zw_1053 : (Cond.instanceMethod ({ cls := "ChequeredCloth$Known", name := "nextPayment", desc := "(I)I" } : MethodName)) ∈ zT := zT_of5 93 rfl rfl
theorem zw_1054 : (Cond.selects "ChequeredCloth$Known" ({ cls := "ChequeredCloth$Known", name := "nextPayment", desc := "(I)I" } : MethodName) ({ cls := "ChequeredCloth$Known", name := "nextPayment", desc := "(I)I" } : MethodName)) ∈ zT := zT_of5 94 rfl rfl
theorem zw_1055 : (Cond.code ({ cls := "ChequeredCloth$Known", name := "nextPayment", desc := "(I)I" } : MethodName) prog_7_method_6_code (2 : Nat) (Option.some FieldType.int)) ∈ zT := zT_of5 95 rfl rfl
theorem zw_1056 : (Cond.methodLink "ChequeredCloth$Roll" (95 : Nat) ({ cls := "ChequeredCloth$Roll", name := "splitDebt", desc := "(LChequeredCloth$Writ;I)V" } : MethodName)) ∈ zT := zT_of5 96 rfl rfl
theorem zw_1058 : (Cond.instanceMethod ({ cls := "ChequeredCloth$Roll", name := "splitDebt", desc := "(LChequeredCloth$Writ;I)V" } : MethodName)) ∈ zT := zT_of5 98 rfl rfl
theorem zw_1059 : (Cond.code ({ cls := "ChequeredCloth$Roll", name := "splitDebt", desc := "(LChequeredCloth$Writ;I)V" } : MethodName) prog_10_method_16_code (11 : Nat) (Option.none : Option FieldType)) ∈ zT := zT_of5 99 rfl rfl
theorem zw_1060 : (Cond.methodLink "ChequeredCloth$Roll" (53 : Nat) ({ cls := "java/lang/Math", name := "min", desc := "(II)I" } : MethodName)) ∈ zT := zT_of5 100 rfl rfl
theorem zw_1061 : (Cond.methodLink "ChequeredCloth" (171 : Nat) ({ cls := "ChequeredCloth$Roll", name := "entry", desc := "(II)J" } : MethodName)) ∈ zT := zT_of5 101 rfl rfl
theorem zw_1062 : (Cond.instanceMethod ({ cls := "ChequeredCloth$Roll", name := "entry", desc := "(II)J" } : MethodName)) ∈ zT := zT_of5 102 rfl rfl
theorem zw_1063 : (Cond.selects "ChequeredCloth$Roll" ({ cls := "ChequeredCloth$Roll", name := "entry", desc := "(II)J" } : MethodName) ({ cls := "ChequeredCloth$Roll", name := "entry", desc := "(II)J" } : MethodName)) ∈ zT := zT_of5 103 rfl rfl
theorem zw_1064 : (Cond.code ({ cls := "ChequeredCloth$Roll", name := "entry", desc := "(II)J" } : MethodName) prog_10_method_9_code (3 : Nat) (Option.some FieldType.long)) ∈ zT := zT_of5 104 rfl rfl
theorem zw_1066 : (Cond.constantLong "ChequeredCloth$Roll" (106 : Nat) (-2000000000000 : Int64)) ∈ zT := zT_of5 106 rfl rfl
theorem zw_1067 : (Cond.methodLink "ChequeredCloth$Roll" (108 : Nat) ({ cls := "ChequeredCloth$Roll", name := "putOffAfter", desc := "(I)J" } : MethodName)) ∈ zT := zT_of5 107 rfl rfl
theorem zw_1069 : (Cond.instanceMethod ({ cls := "ChequeredCloth$Roll", name := "putOffAfter", desc := "(I)J" } : MethodName)) ∈ zT := zT_of5 109 rfl rfl
theorem zw_1070 : (Cond.code ({ cls := "ChequeredCloth$Roll", name := "putOffAfter", desc := "(I)J" } : MethodName) prog_10_method_10_code (5 : Nat) (Option.some FieldType.long)) ∈ zT := zT_of5 110 rfl rfl
theorem zw_1071 : (Cond.methodLink "ChequeredClothLaw" (125 : Nat) ({ cls := "ChequeredCloth", name := "owed", desc := "(I)J" } : MethodName)) ∈ zT := zT_of5 111 rfl rfl
theorem zw_1072 : (Cond.instanceMethod ({ cls := "ChequeredCloth", name := "owed", desc := "(I)J" } : MethodName)) ∈ zT := zT_of5 112 rfl rfl
theorem zw_1073 : (Cond.selects "ChequeredCloth" ({ cls := "ChequeredCloth", name := "owed", desc := "(I)J" } : MethodName) ({ cls := "ChequeredCloth", name := "owed", desc := "(I)J" } : MethodName)) ∈ zT := zT_of5 113 rfl rfl
theorem zw_1074 : (Cond.code ({ cls := "ChequeredCloth", name := "owed", desc := "(I)J" } : MethodName) prog_1_method_27_code (2 : Nat) (Option.some FieldType.long)) ∈ zT := zT_of5 114 rfl rfl
theorem zw_1075 : (Cond.methodLink "ChequeredCloth" (177 : Nat) ({ cls := "ChequeredCloth$Audit", name := "debtsAboveNothing", desc := "(II)J" } : MethodName)) ∈ zT := zT_of5 115 rfl rfl
theorem zw_1076 : (Cond.instanceMethod ({ cls := "ChequeredCloth$Audit", name := "debtsAboveNothing", desc := "(II)J" } : MethodName)) ∈ zT := zT_of5 116 rfl rfl
theorem zw_1077 : (Cond.selects "ChequeredCloth$Audit" ({ cls := "ChequeredCloth$Audit", name := "debtsAboveNothing", desc := "(II)J" } : MethodName) ({ cls := "ChequeredCloth$Audit", name := "debtsAboveNothing", desc := "(II)J" } : MethodName)) ∈ zT := zT_of5 117 rfl rfl
theorem zw_1078 : (Cond.code ({ cls := "ChequeredCloth$Audit", name := "debtsAboveNothing", desc := "(II)J" } : MethodName) prog_3_method_4_code (6 : Nat) (Option.some FieldType.long)) ∈ zT := zT_of5 118 rfl rfl
theorem zw_1079 : (Cond.methodLink "ChequeredCloth$Audit" (81 : Nat) ({ cls := "ChequeredCloth$Roll", name := "entry", desc := "(II)J" } : MethodName)) ∈ zT := zT_of5 119 rfl rfl
theorem zw_1080 : (Cond.methodLink "ChequeredCloth$Audit" (85 : Nat) ({ cls := "java/lang/Math", name := "max", desc := "(JJ)J" } : MethodName)) ∈ zT := zT_of5 120 rfl rfl
theorem zw_1081 : (Cond.constantLong "ChequeredCloth" (180 : Nat) (-1 : Int64)) ∈ zT := zT_of5 121 rfl rfl
theorem zw_1082 : (Cond.methodLink "ChequeredClothLaw" (132 : Nat) ({ cls := "ChequeredCloth", name := "slip", desc := "(IIJ)I" } : MethodName)) ∈ zT := zT_of5 122 rfl rfl
theorem zw_1083 : (Cond.instanceMethod ({ cls := "ChequeredCloth", name := "slip", desc := "(IIJ)I" } : MethodName)) ∈ zT := zT_of5 123 rfl rfl
theorem zw_1084 : (Cond.selects "ChequeredCloth" ({ cls := "ChequeredCloth", name := "slip", desc := "(IIJ)I" } : MethodName) ({ cls := "ChequeredCloth", name := "slip", desc := "(IIJ)I" } : MethodName)) ∈ zT := zT_of5 124 rfl rfl
theorem zw_1085 : (Cond.code ({ cls := "ChequeredCloth", name := "slip", desc := "(IIJ)I" } : MethodName) prog_1_method_28_code (7 : Nat) (Option.some FieldType.int)) ∈ zT := zT_of5 125 rfl rfl
theorem zw_1086 : (Cond.methodLink "ChequeredCloth" (182 : Nat) ({ cls := "ChequeredCloth$Audit", name := "forgetMoved", desc := "()V" } : MethodName)) ∈ zT := zT_of5 126 rfl rfl
theorem zw_1087 : (Cond.instanceMethod ({ cls := "ChequeredCloth$Audit", name := "forgetMoved", desc := "()V" } : MethodName)) ∈ zT := zT_of5 127 rfl rfl
theorem zw_1088 : (Cond.selects "ChequeredCloth$Audit" ({ cls := "ChequeredCloth$Audit", name := "forgetMoved", desc := "()V" } : MethodName) ({ cls := "ChequeredCloth$Audit", name := "forgetMoved", desc := "()V" } : MethodName)) ∈ zT := zT_of5 128 rfl rfl
theorem zw_1089 : (Cond.code ({ cls := "ChequeredCloth$Audit", name := "forgetMoved", desc := "()V" } : MethodName) prog_3_method_7_code (1 : Nat) (Option.none : Option FieldType)) ∈ zT := zT_of5 129 rfl rfl
theorem zw_1090 : (Cond.methodLink "ChequeredCloth" (185 : Nat) ({ cls := "ChequeredCloth$Audit", name := "findLeftOut", desc := "(LChequeredCloth$Roll;IJ)I" } : MethodName)) ∈ zT := zT_of5 130 rfl rfl
theorem zw_1091 : (Cond.instanceMethod ({ cls := "ChequeredCloth$Audit", name := "findLeftOut", desc := "(LChequeredCloth$Roll;IJ)I" } : MethodName)) ∈ zT := zT_of5 131 rfl rfl
theorem zw_1092 : (Cond.selects "ChequeredCloth$Audit" ({ cls := "ChequeredCloth$Audit", name := "findLeftOut", desc := "(LChequeredCloth$Roll;IJ)I" } : MethodName) ({ cls := "ChequeredCloth$Audit", name := "findLeftOut", desc := "(LChequeredCloth$Roll;IJ)I" } : MethodName)) ∈ zT := zT_of5 132 rfl rfl
theorem zw_1093 : (Cond.code ({ cls := "ChequeredCloth$Audit", name := "findLeftOut", desc := "(LChequeredCloth$Roll;IJ)I" } : MethodName) prog_3_method_8_code (8 : Nat) (Option.some FieldType.int)) ∈ zT := zT_of5 133 rfl rfl
theorem zw_1094 : (Cond.methodLink "ChequeredCloth$Audit" (116 : Nat) ({ cls := "ChequeredCloth$Acts", name := "isKnown", desc := "(II)Z" } : MethodName)) ∈ zT := zT_of5 134 rfl rfl
theorem zw_1095 : (Cond.methodLink "ChequeredCloth$Audit" (95 : Nat) ({ cls := "ChequeredCloth$Roll", name := "shireOf", desc := "()I" } : MethodName)) ∈ zT := zT_of5 135 rfl rfl
theorem zw_1096 : (Cond.instanceMethod ({ cls := "ChequeredCloth$Roll", name := "shireOf", desc := "()I" } : MethodName)) ∈ zT := zT_of5 136 rfl rfl
theorem zw_1097 : (Cond.selects "ChequeredCloth$Roll" ({ cls := "ChequeredCloth$Roll", name := "shireOf", desc := "()I" } : MethodName) ({ cls := "ChequeredCloth$Roll", name := "shireOf", desc := "()I" } : MethodName)) ∈ zT := zT_of5 137 rfl rfl
theorem zw_1098 : (Cond.code ({ cls := "ChequeredCloth$Roll", name := "shireOf", desc := "()I" } : MethodName) prog_10_method_6_code (1 : Nat) (Option.some FieldType.int)) ∈ zT := zT_of5 138 rfl rfl
theorem zw_1099 : (Cond.methodLink "ChequeredCloth$Audit" (99 : Nat) ({ cls := "ChequeredCloth$Acts", name := "canTouch", desc := "(III)Z" } : MethodName)) ∈ zT := zT_of5 139 rfl rfl
theorem zw_1100 : (Cond.instanceMethod ({ cls := "ChequeredCloth$Acts", name := "canTouch", desc := "(III)Z" } : MethodName)) ∈ zT := zT_of5 140 rfl rfl
theorem zw_1101 : (Cond.selects "ChequeredCloth$Acts" ({ cls := "ChequeredCloth$Acts", name := "canTouch", desc := "(III)Z" } : MethodName) ({ cls := "ChequeredCloth$Acts", name := "canTouch", desc := "(III)Z" } : MethodName)) ∈ zT := zT_of5 141 rfl rfl
theorem zw_1102 : (Cond.code ({ cls := "ChequeredCloth$Acts", name := "canTouch", desc := "(III)Z" } : MethodName) prog_2_method_11_code (4 : Nat) (Option.some FieldType.boolean)) ∈ zT := zT_of5 142 rfl rfl
theorem zw_1103 : (Cond.methodLink "ChequeredCloth$Audit" (91 : Nat) ({ cls := "ChequeredCloth$Roll", name := "beginLike", desc := "(LChequeredCloth$Roll;I)V" } : MethodName)) ∈ zT := zT_of5 143 rfl rfl
theorem zw_1104 : (Cond.instanceMethod ({ cls := "ChequeredCloth$Roll", name := "beginLike", desc := "(LChequeredCloth$Roll;I)V" } : MethodName)) ∈ zT := zT_of5 144 rfl rfl
theorem zw_1105 : (Cond.selects "ChequeredCloth$Roll" ({ cls := "ChequeredCloth$Roll", name := "beginLike", desc := "(LChequeredCloth$Roll;I)V" } : MethodName) ({ cls := "ChequeredCloth$Roll", name := "beginLike", desc := "(LChequeredCloth$Roll;I)V" } : MethodName)) ∈ zT := zT_of5 145 rfl rfl
theorem zw_1106 : (Cond.code ({ cls := "ChequeredCloth$Roll", name := "beginLike", desc := "(LChequeredCloth$Roll;I)V" } : MethodName) prog_10_method_3_code (3 : Nat) (Option.none : Option FieldType)) ∈ zT := zT_of5 146 rfl rfl
theorem zw_1107 : (Cond.methodLink "ChequeredCloth$Roll" (59 : Nat) ({ cls := "java/lang/Math", name := "max", desc := "(II)I" } : MethodName)) ∈ zT := zT_of5 147 rfl rfl
theorem zw_1108 : (Cond.methodLink "ChequeredCloth$Audit" (123 : Nat) ({ cls := "ChequeredCloth$Audit", name := "tellsOtherwise", desc := "(LChequeredCloth$Roll;IIJ)Z" } : MethodName)) ∈ zT := zT_of5 148 rfl rfl
theorem zw_1110 : (Cond.instanceMethod ({ cls := "ChequeredCloth$Audit", name := "tellsOtherwise", desc := "(LChequeredCloth$Roll;IIJ)Z" } : MethodName)) ∈ zT := zT_of5 150 rfl rfl
theorem zw_1111 : (Cond.code ({ cls := "ChequeredCloth$Audit", name := "tellsOtherwise", desc := "(LChequeredCloth$Roll;IIJ)Z" } : MethodName) prog_3_method_11_code (7 : Nat) (Option.some FieldType.boolean)) ∈ zT := zT_of5 151 rfl rfl
theorem zw_1112 : (Cond.methodLink "ChequeredCloth$Audit" (153 : Nat) ({ cls := "ChequeredCloth$Roll", name := "nextTerm", desc := "()I" } : MethodName)) ∈ zT := zT_of5 152 rfl rfl
theorem zw_1113 : (Cond.instanceMethod ({ cls := "ChequeredCloth$Roll", name := "nextTerm", desc := "()I" } : MethodName)) ∈ zT := zT_of5 153 rfl rfl
theorem zw_1114 : (Cond.selects "ChequeredCloth$Roll" ({ cls := "ChequeredCloth$Roll", name := "nextTerm", desc := "()I" } : MethodName) ({ cls := "ChequeredCloth$Roll", name := "nextTerm", desc := "()I" } : MethodName)) ∈ zT := zT_of5 154 rfl rfl
theorem zw_1115 : (Cond.code ({ cls := "ChequeredCloth$Roll", name := "nextTerm", desc := "()I" } : MethodName) prog_10_method_7_code (1 : Nat) (Option.some FieldType.int)) ∈ zT := zT_of5 155 rfl rfl
theorem zw_1116 : (Cond.methodLink "ChequeredCloth$Audit" (156 : Nat) ({ cls := "ChequeredCloth$Roll", name := "isLike", desc := "(LChequeredCloth$Roll;I)Z" } : MethodName)) ∈ zT := zT_of5 156 rfl rfl
theorem zw_1117 : (Cond.instanceMethod ({ cls := "ChequeredCloth$Roll", name := "isLike", desc := "(LChequeredCloth$Roll;I)Z" } : MethodName)) ∈ zT := zT_of5 157 rfl rfl
theorem zw_1118 : (Cond.selects "ChequeredCloth$Roll" ({ cls := "ChequeredCloth$Roll", name := "isLike", desc := "(LChequeredCloth$Roll;I)Z" } : MethodName) ({ cls := "ChequeredCloth$Roll", name := "isLike", desc := "(LChequeredCloth$Roll;I)Z" } : MethodName)) ∈ zT := zT_of5 158 rfl rfl
theorem zw_1119 : (Cond.code ({ cls := "ChequeredCloth$Roll", name := "isLike", desc := "(LChequeredCloth$Roll;I)Z" } : MethodName) prog_10_method_8_code (4 : Nat) (Option.some FieldType.boolean)) ∈ zT := zT_of5 159 rfl rfl
theorem zw_1120 : (Cond.methodLink "ChequeredCloth" (189 : Nat) ({ cls := "ChequeredCloth$Audit", name := "findMoved", desc := "(LChequeredCloth$Roll;IJ)I" } : MethodName)) ∈ zT := zT_of5 160 rfl rfl
theorem zw_1121 : (Cond.instanceMethod ({ cls := "ChequeredCloth$Audit", name := "findMoved", desc := "(LChequeredCloth$Roll;IJ)I" } : MethodName)) ∈ zT := zT_of5 161 rfl rfl
theorem zw_1122 : (Cond.selects "ChequeredCloth$Audit" ({ cls := "ChequeredCloth$Audit", name := "findMoved", desc := "(LChequeredCloth$Roll;IJ)I" } : MethodName) ({ cls := "ChequeredCloth$Audit", name := "findMoved", desc := "(LChequeredCloth$Roll;IJ)I" } : MethodName)) ∈ zT := zT_of5 162 rfl rfl
theorem zw_1123 : (Cond.code ({ cls := "ChequeredCloth$Audit", name := "findMoved", desc := "(LChequeredCloth$Roll;IJ)I" } : MethodName) prog_3_method_9_code (8 : Nat) (Option.some FieldType.int)) ∈ zT := zT_of5 163 rfl rfl
theorem zw_1124 : (Cond.methodLink "ChequeredCloth$Audit" (127 : Nat) ({ cls := "ChequeredCloth$Acts", name := "isPayment", desc := "(I)Z" } : MethodName)) ∈ zT := zT_of5 164 rfl rfl
theorem zw_1125 : (Cond.methodLink "ChequeredCloth$Audit" (133 : Nat) ({ cls := "ChequeredCloth$Known", name := "addPayment", desc := "(II)V" } : MethodName)) ∈ zT := zT_of5 165 rfl rfl
theorem zw_1126 : (Cond.methodLink "ChequeredCloth$Audit" (136 : Nat) ({ cls := "java/lang/Math", name := "max", desc := "(II)I" } : MethodName)) ∈ zT := zT_of5 166 rfl rfl
theorem zw_1127 : (Cond.methodLink "ChequeredCloth$Audit" (139 : Nat) ({ cls := "ChequeredCloth$Known", name := "dropFirstPayment", desc := "(I)V" } : MethodName)) ∈ zT := zT_of5 167 rfl rfl
theorem zw_1128 : (Cond.instanceMethod ({ cls := "ChequeredCloth$Known", name := "dropFirstPayment", desc := "(I)V" } : MethodName)) ∈ zT := zT_of5 168 rfl rfl
theorem zw_1129 : (Cond.selects "ChequeredCloth$Known" ({ cls := "ChequeredCloth$Known", name := "dropFirstPayment", desc := "(I)V" } : MethodName) ({ cls := "ChequeredCloth$Known", name := "dropFirstPayment", desc := "(I)V" } : MethodName)) ∈ zT := zT_of5 169 rfl rfl
theorem zw_1130 : (Cond.code ({ cls := "ChequeredCloth$Known", name := "dropFirstPayment", desc := "(I)V" } : MethodName) prog_7_method_8_code (2 : Nat) (Option.none : Option FieldType)) ∈ zT := zT_of5 170 rfl rfl
theorem zw_1131 : (Cond.methodLink "ChequeredCloth$Known" (70 : Nat) ({ cls := "ChequeredCloth$Known", name := "nextPayment", desc := "(I)I" } : MethodName)) ∈ zT := zT_of5 171 rfl rfl
theorem zw_1132 : (Cond.methodLink "ChequeredClothLaw" (137 : Nat) ({ cls := "ChequeredCloth", name := "moved", desc := "()I" } : MethodName)) ∈ zT := zT_of5 172 rfl rfl
theorem zw_1133 : (Cond.instanceMethod ({ cls := "ChequeredCloth", name := "moved", desc := "()I" } : MethodName)) ∈ zT := zT_of5 173 rfl rfl
theorem zw_1134 : (Cond.selects "ChequeredCloth" ({ cls := "ChequeredCloth", name := "moved", desc := "()I" } : MethodName) ({ cls := "ChequeredCloth", name := "moved", desc := "()I" } : MethodName)) ∈ zT := zT_of5 174 rfl rfl
theorem zw_1135 : (Cond.code ({ cls := "ChequeredCloth", name := "moved", desc := "()I" } : MethodName) prog_1_method_29_code (1 : Nat) (Option.some FieldType.int)) ∈ zT := zT_of5 175 rfl rfl
theorem zw_1136 : (Cond.methodLink "ChequeredCloth" (192 : Nat) ({ cls := "ChequeredCloth$Audit", name := "movedTo", desc := "()I" } : MethodName)) ∈ zT := zT_of5 176 rfl rfl
theorem zw_1137 : (Cond.instanceMethod ({ cls := "ChequeredCloth$Audit", name := "movedTo", desc := "()I" } : MethodName)) ∈ zT := zT_of5 177 rfl rfl
theorem zw_1138 : (Cond.selects "ChequeredCloth$Audit" ({ cls := "ChequeredCloth$Audit", name := "movedTo", desc := "()I" } : MethodName) ({ cls := "ChequeredCloth$Audit", name := "movedTo", desc := "()I" } : MethodName)) ∈ zT := zT_of5 178 rfl rfl
theorem zw_1139 : (Cond.code ({ cls := "ChequeredCloth$Audit", name := "movedTo", desc := "()I" } : MethodName) prog_3_method_6_code (1 : Nat) (Option.some FieldType.int)) ∈ zT := zT_of5 179 rfl rfl
theorem zw_1140 : (Cond.methodLink "ChequeredClothLaw" (142 : Nat) ({ cls := "ChequeredCloth", name := "since", desc := "(II)I" } : MethodName)) ∈ zT := zT_of5 180 rfl rfl
theorem zw_1141 : (Cond.instanceMethod ({ cls := "ChequeredCloth", name := "since", desc := "(II)I" } : MethodName)) ∈ zT := zT_of5 181 rfl rfl
theorem zw_1142 : (Cond.selects "ChequeredCloth" ({ cls := "ChequeredCloth", name := "since", desc := "(II)I" } : MethodName) ({ cls := "ChequeredCloth", name := "since", desc := "(II)I" } : MethodName)) ∈ zT := zT_of5 182 rfl rfl
theorem zw_1143 : (Cond.code ({ cls := "ChequeredCloth", name := "since", desc := "(II)I" } : MethodName) prog_1_method_30_code (3 : Nat) (Option.some FieldType.int)) ∈ zT := zT_of5 183 rfl rfl
theorem zw_1144 : (Cond.methodLink "ChequeredCloth" (195 : Nat) ({ cls := "ChequeredCloth$Audit", name := "sameSince", desc := "(LChequeredCloth$Roll;I)I" } : MethodName)) ∈ zT := zT_of5 184 rfl rfl
theorem zw_1145 : (Cond.instanceMethod ({ cls := "ChequeredCloth$Audit", name := "sameSince", desc := "(LChequeredCloth$Roll;I)I" } : MethodName)) ∈ zT := zT_of5 185 rfl rfl
theorem zw_1146 : (Cond.selects "ChequeredCloth$Audit" ({ cls := "ChequeredCloth$Audit", name := "sameSince", desc := "(LChequeredCloth$Roll;I)I" } : MethodName) ({ cls := "ChequeredCloth$Audit", name := "sameSince", desc := "(LChequeredCloth$Roll;I)I" } : MethodName)) ∈ zT := zT_of5 186 rfl rfl
theorem zw_1147 : (Cond.code ({ cls := "ChequeredCloth$Audit", name := "sameSince", desc := "(LChequeredCloth$Roll;I)I" } : MethodName) prog_3_method_5_code (6 : Nat) (Option.some FieldType.int)) ∈ zT := zT_of5 187 rfl rfl
theorem zw_1148 : (Cond.methodLink "ChequeredCloth$Audit" (113 : Nat) ({ cls := "ChequeredCloth$Roll", name := "goBack", desc := "(I)V" } : MethodName)) ∈ zT := zT_of5 188 rfl rfl
theorem zw_1149 : (Cond.instanceMethod ({ cls := "ChequeredCloth$Roll", name := "goBack", desc := "(I)V" } : MethodName)) ∈ zT := zT_of5 189 rfl rfl
theorem zw_1150 : (Cond.selects "ChequeredCloth$Roll" ({ cls := "ChequeredCloth$Roll", name := "goBack", desc := "(I)V" } : MethodName) ({ cls := "ChequeredCloth$Roll", name := "goBack", desc := "(I)V" } : MethodName)) ∈ zT := zT_of5 190 rfl rfl
theorem zw_1151 : (Cond.code ({ cls := "ChequeredCloth$Roll", name := "goBack", desc := "(I)V" } : MethodName) prog_10_method_4_code (2 : Nat) (Option.none : Option FieldType)) ∈ zT := zT_of5 191 rfl rfl
theorem zw_1152 : (Cond.methodLink "ChequeredClothLaw" (146 : Nat) ({ cls := "ChequeredCloth", name := "all", desc := "(I)I" } : MethodName)) ∈ zT := zT_of5 192 rfl rfl
theorem zw_1153 : (Cond.instanceMethod ({ cls := "ChequeredCloth", name := "all", desc := "(I)I" } : MethodName)) ∈ zT := zT_of5 193 rfl rfl
theorem zw_1154 : (Cond.selects "ChequeredCloth" ({ cls := "ChequeredCloth", name := "all", desc := "(I)I" } : MethodName) ({ cls := "ChequeredCloth", name := "all", desc := "(I)I" } : MethodName)) ∈ zT := zT_of5 194 rfl rfl
theorem zw_1155 : (Cond.code ({ cls := "ChequeredCloth", name := "all", desc := "(I)I" } : MethodName) prog_1_method_31_code (2 : Nat) (Option.some FieldType.int)) ∈ zT := zT_of5 195 rfl rfl
theorem zw_1156 : (Cond.methodLink "ChequeredCloth" (199 : Nat) ({ cls := "ChequeredCloth$Chest", name := "halvesFrom", desc := "(I)I" } : MethodName)) ∈ zT := zT_of5 196 rfl rfl
theorem zw_1157 : (Cond.instanceMethod ({ cls := "ChequeredCloth$Chest", name := "halvesFrom", desc := "(I)I" } : MethodName)) ∈ zT := zT_of5 197 rfl rfl
theorem zw_1158 : (Cond.selects "ChequeredCloth$Chest" ({ cls := "ChequeredCloth$Chest", name := "halvesFrom", desc := "(I)I" } : MethodName) ({ cls := "ChequeredCloth$Chest", name := "halvesFrom", desc := "(I)I" } : MethodName)) ∈ zT := zT_of5 198 rfl rfl
theorem zw_1159 : (Cond.code ({ cls := "ChequeredCloth$Chest", name := "halvesFrom", desc := "(I)I" } : MethodName) prog_4_method_10_code (4 : Nat) (Option.some FieldType.int)) ∈ zT := zT_of5 199 rfl rfl
theorem zw_1160 : (Cond.classLink "ChequeredClothLaw" (10 : Nat) "ChequeredClothModel") ∈ zT := zT_of5 200 rfl rfl
theorem zw_1161 : (Cond.instantiable "ChequeredClothModel" (85 : Nat)) ∈ zT := zT_of5 201 rfl rfl
theorem zw_1162 : (Cond.methodLink "ChequeredClothLaw" (12 : Nat) ({ cls := "ChequeredClothModel", name := "<init>", desc := "()V" } : MethodName)) ∈ zT := zT_of5 202 rfl rfl
theorem zw_1163 : (Cond.instanceMethod ({ cls := "ChequeredClothModel", name := "<init>", desc := "()V" } : MethodName)) ∈ zT := zT_of5 203 rfl rfl
theorem zw_1164 : (Cond.code ({ cls := "ChequeredClothModel", name := "<init>", desc := "()V" } : MethodName) prog_14_method_1_code (1 : Nat) (Option.none : Option FieldType)) ∈ zT := zT_of5 204 rfl rfl
theorem zw_1165 : (Cond.methodLink "ChequeredClothModel" (1 : Nat) ({ cls := "java/lang/Object", name := "<init>", desc := "()V" } : MethodName)) ∈ zT := zT_of5 205 rfl rfl
theorem zw_1166 : (Cond.constant "ChequeredClothModel" (37 : Nat) (240000 : Int32)) ∈ zT := zT_of5 206 rfl rfl
theorem zw_1167 : (Cond.constant "ChequeredClothModel" (158 : Nat) (128640 : Int32)) ∈ zT := zT_of5 207 rfl rfl
theorem zw_1168 : (Cond.fieldLink "ChequeredClothModel" (7 : Nat) "ChequeredClothModel" "ratio" "[I") ∈ zT := zT_of5 208 rfl rfl
theorem zw_1169 : (Cond.fieldLink "ChequeredClothModel" (13 : Nat) "ChequeredClothModel" "lie" "[I") ∈ zT := zT_of5 209 rfl rfl
theorem zw_1170 : (Cond.fieldLink "ChequeredClothModel" (16 : Nat) "ChequeredClothModel" "work" "[I") ∈ zT := zT_of5 210 rfl rfl
theorem zw_1171 : (Cond.fieldLink "ChequeredClothModel" (19 : Nat) "ChequeredClothModel" "plain" "[I") ∈ zT := zT_of5 211 rfl rfl
theorem zw_1172 : (Cond.fieldLink "ChequeredClothModel" (22 : Nat) "ChequeredClothModel" "fewest" "[I") ∈ zT := zT_of5 212 rfl rfl
theorem zw_1173 : (Cond.fieldLink "ChequeredClothModel" (25 : Nat) "ChequeredClothModel" "next" "[I") ∈ zT := zT_of5 213 rfl rfl
theorem zw_1174 : (Cond.fieldLink "ChequeredClothModel" (28 : Nat) "ChequeredClothModel" "cuts" "[I") ∈ zT := zT_of5 214 rfl rfl
theorem zw_1175 : (Cond.fieldLink "ChequeredClothModel" (31 : Nat) "ChequeredClothModel" "cutAt" "[I") ∈ zT := zT_of5 215 rfl rfl
theorem zw_1176 : (Cond.fieldLink "ChequeredClothModel" (34 : Nat) "ChequeredClothModel" "cutWorth" "[I") ∈ zT := zT_of5 216 rfl rfl
theorem zw_1177 : (Cond.fieldLink "ChequeredClothModel" (38 : Nat) "ChequeredClothModel" "pence" "[I") ∈ zT := zT_of5 217 rfl rfl
theorem zw_1178 : (Cond.fieldLink "ChequeredClothModel" (41 : Nat) "ChequeredClothModel" "grain" "I") ∈ zT := zT_of5 218 rfl rfl
theorem zw_1179 : (Cond.fieldLink "ChequeredClothModel" (45 : Nat) "ChequeredClothModel" "lost" "I") ∈ zT := zT_of5 219 rfl rfl
theorem zw_1180 : (Cond.fieldLink "ChequeredClothModel" (48 : Nat) "ChequeredClothModel" "limit" "I") ∈ zT := zT_of5 220 rfl rfl
theorem zw_1181 : (Cond.fieldLink "ChequeredClothModel" (51 : Nat) "ChequeredClothModel" "cost" "[I") ∈ zT := zT_of5 221 rfl rfl
theorem zw_1182 : (Cond.fieldLink "ChequeredClothModel" (54 : Nat) "ChequeredClothModel" "best" "[I") ∈ zT := zT_of5 222 rfl rfl
theorem zw_1183 : (Cond.fieldLink "ChequeredClothModel" (57 : Nat) "ChequeredClothModel" "mates" "[I") ∈ zT := zT_of5 223 rfl rfl
theorem zw_1184 : (Cond.fieldLink "ChequeredClothModel" (60 : Nat) "ChequeredClothModel" "fits" "[I") ∈ zT := zT_of5 224 rfl rfl
theorem zw_1185 : (Cond.fieldLink "ChequeredClothModel" (63 : Nat) "ChequeredClothModel" "tape" "[I") ∈ zT := zT_of5 225 rfl rfl
theorem zw_1186 : (Cond.fieldLink "ChequeredClothModel" (272 : Nat) "ChequeredClothModel" "taped" "I") ∈ zT := zT_of5 226 rfl rfl
theorem zw_1187 : (Cond.fieldLink "ChequeredClothModel" (281 : Nat) "ChequeredClothModel" "at" "I") ∈ zT := zT_of5 227 rfl rfl
theorem zw_1188 : (Cond.fieldLink "ChequeredClothModel" (284 : Nat) "ChequeredClothModel" "end" "I") ∈ zT := zT_of5 228 rfl rfl
theorem zw_1189 : (Cond.fieldLink "ChequeredClothModel" (294 : Nat) "ChequeredClothModel" "ended" "I") ∈ zT := zT_of5 229 rfl rfl
theorem zw_1190 : (Cond.fieldLink "ChequeredClothModel" (275 : Nat) "ChequeredClothModel" "bad" "I") ∈ zT := zT_of5 230 rfl rfl
theorem zw_1191 : (Cond.fieldLink "ChequeredClothModel" (278 : Nat) "ChequeredClothModel" "badPlace" "I") ∈ zT := zT_of5 231 rfl rfl
theorem zw_1192 : (Cond.fieldLink "ChequeredClothModel" (389 : Nat) "ChequeredClothModel" "fault" "I") ∈ zT := zT_of5 232 rfl rfl
theorem zw_1193 : (Cond.fieldLink "ChequeredClothModel" (66 : Nat) "ChequeredClothModel" "faultPlace" "I") ∈ zT := zT_of5 233 rfl rfl
theorem zw_1194 : (Cond.fieldLink "ChequeredClothModel" (69 : Nat) "ChequeredClothModel" "farmWord" "[C") ∈ zT := zT_of5 234 rfl rfl
theorem zw_1195 : (Cond.fieldLink "ChequeredClothModel" (73 : Nat) "ChequeredClothModel" "blanchedWord" "[C") ∈ zT := zT_of5 235 rfl rfl
theorem zw_1196 : (Cond.fieldLink "ChequeredClothModel" (76 : Nat) "ChequeredClothModel" "allowWord" "[C") ∈ zT := zT_of5 236 rfl rfl
theorem zw_1197 : (Cond.fieldLink "ChequeredClothModel" (79 : Nat) "ChequeredClothModel" "pardonWord" "[C") ∈ zT := zT_of5 237 rfl rfl
theorem zw_1198 : (Cond.fieldLink "ChequeredClothModel" (82 : Nat) "ChequeredClothModel" "splitWord" "[C") ∈ zT := zT_of5 238 rfl rfl
theorem zw_1199 : (Cond.fieldLink "ChequeredClothModel" (85 : Nat) "ChequeredClothModel" "inWord" "[C") ∈ zT := zT_of5 239 rfl rfl
theorem zw_1200 : (Cond.fieldLink "ChequeredClothModel" (88 : Nat) "ChequeredClothModel" "forWord" "[C") ∈ zT := zT_of6 0 rfl rfl
theorem zw_1201 : (Cond.fieldLink "ChequeredClothModel" (91 : Nat) "ChequeredClothModel" "orWord" "[C") ∈ zT := zT_of6 1 rfl rfl
theorem zw_1202 : (Cond.fieldLink "ChequeredClothModel" (94 : Nat) "ChequeredClothModel" "andWord" "[C") ∈ zT := zT_of6 2 rfl rfl
theorem zw_1203 : (Cond.fieldLink "ChequeredClothModel" (97 : Nat) "ChequeredClothModel" "notWord" "[C") ∈ zT := zT_of6 3 rfl rfl
theorem zw_1204 : (Cond.fieldLink "ChequeredClothModel" (100 : Nat) "ChequeredClothModel" "allWord" "[C") ∈ zT := zT_of6 4 rfl rfl
theorem zw_1205 : (Cond.fieldLink "ChequeredClothModel" (103 : Nat) "ChequeredClothModel" "shireWord" "[C") ∈ zT := zT_of6 5 rfl rfl
theorem zw_1206 : (Cond.fieldLink "ChequeredClothModel" (106 : Nat) "ChequeredClothModel" "penceWord" "[C") ∈ zT := zT_of6 6 rfl rfl
theorem zw_1207 : (Cond.fieldLink "ChequeredClothModel" (109 : Nat) "ChequeredClothModel" "shillingsWord" "[C") ∈ zT := zT_of6 7 rfl rfl
theorem zw_1208 : (Cond.fieldLink "ChequeredClothModel" (112 : Nat) "ChequeredClothModel" "poundsWord" "[C") ∈ zT := zT_of6 8 rfl rfl
theorem zw_1209 : (Cond.fieldLink "ChequeredClothModel" (115 : Nat) "ChequeredClothModel" "termWord" "[C") ∈ zT := zT_of6 9 rfl rfl
theorem zw_1210 : (Cond.fieldLink "ChequeredClothModel" (118 : Nat) "ChequeredClothModel" "yearWord" "[C") ∈ zT := zT_of6 10 rfl rfl
theorem zw_1211 : (Cond.fieldLink "ChequeredClothModel" (121 : Nat) "ChequeredClothModel" "debtWord" "[C") ∈ zT := zT_of6 11 rfl rfl
theorem zw_1212 : (Cond.fieldLink "ChequeredClothModel" (124 : Nat) "ChequeredClothModel" "paidWord" "[C") ∈ zT := zT_of6 12 rfl rfl
theorem zw_1213 : (Cond.fieldLink "ChequeredClothModel" (127 : Nat) "ChequeredClothModel" "minWord" "[C") ∈ zT := zT_of6 13 rfl rfl
theorem zw_1214 : (Cond.fieldLink "ChequeredClothModel" (130 : Nat) "ChequeredClothModel" "maxWord" "[C") ∈ zT := zT_of6 14 rfl rfl
theorem zw_1215 : (Cond.fieldLink "ChequeredClothModel" (133 : Nat) "ChequeredClothModel" "many" "[I") ∈ zT := zT_of6 15 rfl rfl
theorem zw_1216 : (Cond.fieldLink "ChequeredClothModel" (136 : Nat) "ChequeredClothModel" "sort" "[I") ∈ zT := zT_of6 16 rfl rfl
theorem zw_1217 : (Cond.fieldLink "ChequeredClothModel" (139 : Nat) "ChequeredClothModel" "isBlanched" "[Z") ∈ zT := zT_of6 17 rfl rfl
theorem zw_1218 : (Cond.fieldLink "ChequeredClothModel" (143 : Nat) "ChequeredClothModel" "first" "[I") ∈ zT := zT_of6 18 rfl rfl
theorem zw_1219 : (Cond.fieldLink "ChequeredClothModel" (146 : Nat) "ChequeredClothModel" "second" "[I") ∈ zT := zT_of6 19 rfl rfl
theorem zw_1220 : (Cond.fieldLink "ChequeredClothModel" (149 : Nat) "ChequeredClothModel" "sumFrom" "[I") ∈ zT := zT_of6 20 rfl rfl
theorem zw_1221 : (Cond.fieldLink "ChequeredClothModel" (152 : Nat) "ChequeredClothModel" "sumEnd" "[I") ∈ zT := zT_of6 21 rfl rfl
theorem zw_1222 : (Cond.fieldLink "ChequeredClothModel" (155 : Nat) "ChequeredClothModel" "testEnd" "[I") ∈ zT := zT_of6 22 rfl rfl
theorem zw_1223 : (Cond.fieldLink "ChequeredClothModel" (159 : Nat) "ChequeredClothModel" "codes" "[I") ∈ zT := zT_of6 23 rfl rfl
theorem zw_1224 : (Cond.fieldLink "ChequeredClothModel" (314 : Nat) "ChequeredClothModel" "coded" "I") ∈ zT := zT_of6 24 rfl rfl
theorem zw_1225 : (Cond.fieldLink "ChequeredClothModel" (162 : Nat) "ChequeredClothModel" "wait" "[I") ∈ zT := zT_of6 25 rfl rfl
theorem zw_1226 : (Cond.fieldLink "ChequeredClothModel" (320 : Nat) "ChequeredClothModel" "waits" "I") ∈ zT := zT_of6 26 rfl rfl
theorem zw_1227 : (Cond.fieldLink "ChequeredClothModel" (317 : Nat) "ChequeredClothModel" "open" "I") ∈ zT := zT_of6 27 rfl rfl
theorem zw_1228 : (Cond.fieldLink "ChequeredClothModel" (326 : Nat) "ChequeredClothModel" "base" "I") ∈ zT := zT_of6 28 rfl rfl
theorem zw_1229 : (Cond.fieldLink "ChequeredClothModel" (165 : Nat) "ChequeredClothModel" "pile" "[J") ∈ zT := zT_of6 29 rfl rfl
theorem zw_1230 : (Cond.fieldLink "ChequeredClothModel" (394 : Nat) "ChequeredClothModel" "piled" "I") ∈ zT := zT_of6 30 rfl rfl
theorem zw_1231 : (Cond.fieldLink "ChequeredClothModel" (415 : Nat) "ChequeredClothModel" "debt" "J") ∈ zT := zT_of6 31 rfl rfl
theorem zw_1232 : (Cond.fieldLink "ChequeredClothModel" (419 : Nat) "ChequeredClothModel" "paid" "J") ∈ zT := zT_of6 32 rfl rfl
theorem zw_1233 : (Cond.fieldLink "ChequeredClothModel" (412 : Nat) "ChequeredClothModel" "now" "I") ∈ zT := zT_of6 33 rfl rfl
theorem zw_1234 : (Cond.fieldLink "ChequeredClothModel" (409 : Nat) "ChequeredClothModel" "shireNow" "I") ∈ zT := zT_of6 34 rfl rfl
theorem zw_1235 : (Cond.fieldLink "ChequeredClothModel" (429 : Nat) "ChequeredClothModel" "acts" "I") ∈ zT := zT_of6 35 rfl rfl
theorem zw_1236 : (Cond.fieldLink "ChequeredClothModel" (169 : Nat) "ChequeredClothModel" "actKind" "[I") ∈ zT := zT_of6 36 rfl rfl
theorem zw_1237 : (Cond.fieldLink "ChequeredClothModel" (172 : Nat) "ChequeredClothModel" "actTerm" "[I") ∈ zT := zT_of6 37 rfl rfl
theorem zw_1238 : (Cond.fieldLink "ChequeredClothModel" (175 : Nat) "ChequeredClothModel" "actShire" "[I") ∈ zT := zT_of6 38 rfl rfl
theorem zw_1239 : (Cond.fieldLink "ChequeredClothModel" (178 : Nat) "ChequeredClothModel" "actNumber" "[I") ∈ zT := zT_of6 39 rfl rfl
theorem zw_1240 : (Cond.fieldLink "ChequeredClothModel" (181 : Nat) "ChequeredClothModel" "voidAt" "[I") ∈ zT := zT_of6 40 rfl rfl
theorem zw_1241 : (Cond.fieldLink "ChequeredClothModel" (184 : Nat) "ChequeredClothModel" "as" "I") ∈ zT := zT_of6 41 rfl rfl
theorem zw_1242 : (Cond.fieldLink "ChequeredClothModel" (460 : Nat) "ChequeredClothModel" "knownAt" "I") ∈ zT := zT_of6 42 rfl rfl
theorem zw_1243 : (Cond.fieldLink "ChequeredClothModel" (463 : Nat) "ChequeredClothModel" "without" "I") ∈ zT := zT_of6 43 rfl rfl
theorem zw_1244 : (Cond.fieldLink "ChequeredClothModel" (478 : Nat) "ChequeredClothModel" "movedAct" "I") ∈ zT := zT_of6 44 rfl rfl
theorem zw_1245 : (Cond.fieldLink "ChequeredClothModel" (505 : Nat) "ChequeredClothModel" "movedTerm" "I") ∈ zT := zT_of6 45 rfl rfl
theorem zw_1246 : (Cond.fieldLink "ChequeredClothModel" (187 : Nat) "ChequeredClothModel" "off" "[J") ∈ zT := zT_of6 46 rfl rfl
theorem zw_1247 : (Cond.fieldLink "ChequeredClothModel" (492 : Nat) "ChequeredClothModel" "farms" "J") ∈ zT := zT_of6 47 rfl rfl
theorem zw_1248 : (Cond.fieldLink "ChequeredClothModel" (499 : Nat) "ChequeredClothModel" "allowed" "J") ∈ zT := zT_of6 48 rfl rfl
theorem zw_1249 : (Cond.fieldLink "ChequeredClothModel" (502 : Nat) "ChequeredClothModel" "pardoned" "J") ∈ zT := zT_of6 49 rfl rfl
theorem zw_1250 : (Cond.fieldLink "ChequeredClothModel" (517 : Nat) "ChequeredClothModel" "paidTold" "J") ∈ zT := zT_of6 50 rfl rfl
theorem zw_1251 : (Cond.fieldLink "ChequeredClothModel" (495 : Nat) "ChequeredClothModel" "isBlanchedNow" "Z") ∈ zT := zT_of6 51 rfl rfl
theorem zw_1252 : (Cond.fieldLink "ChequeredClothModel" (190 : Nat) "ChequeredClothModel" "moved" "I") ∈ zT := zT_of6 52 rfl rfl
theorem zw_1253 : (Cond.laysFinal "ChequeredClothModel" "ChequeredClothModel" "ratio" "[I") ∈ zT := zT_of6 53 rfl rfl
theorem zw_1255 : (Cond.laysFinal "ChequeredClothModel" "ChequeredClothModel" "lie" "[I") ∈ zT := zT_of6 55 rfl rfl
theorem zw_1257 : (Cond.laysFinal "ChequeredClothModel" "ChequeredClothModel" "work" "[I") ∈ zT := zT_of6 57 rfl rfl
theorem zw_1259 : (Cond.laysFinal "ChequeredClothModel" "ChequeredClothModel" "plain" "[I") ∈ zT := zT_of6 59 rfl rfl
theorem zw_1261 : (Cond.laysFinal "ChequeredClothModel" "ChequeredClothModel" "fewest" "[I") ∈ zT := zT_of6 61 rfl rfl
theorem zw_1263 : (Cond.laysFinal "ChequeredClothModel" "ChequeredClothModel" "next" "[I") ∈ zT := zT_of6 63 rfl rfl
theorem zw_1265 : (Cond.laysFinal "ChequeredClothModel" "ChequeredClothModel" "cuts" "[I") ∈ zT := zT_of6 65 rfl rfl
theorem zw_1267 : (Cond.laysFinal "ChequeredClothModel" "ChequeredClothModel" "cutAt" "[I") ∈ zT := zT_of6 67 rfl rfl
theorem zw_1269 : (Cond.laysFinal "ChequeredClothModel" "ChequeredClothModel" "cutWorth" "[I") ∈ zT := zT_of6 69 rfl rfl
theorem zw_1271 : (Cond.laysFinal "ChequeredClothModel" "ChequeredClothModel" "pence" "[I") ∈ zT := zT_of6 71 rfl rfl
theorem zw_1273 : (Cond.lays "ChequeredClothModel" "ChequeredClothModel" "grain" "I") ∈ zT := zT_of6 73 rfl rfl
theorem zw_1275 : (Cond.lays "ChequeredClothModel" "ChequeredClothModel" "lost" "I") ∈ zT := zT_of6 75 rfl rfl
theorem zw_1277 : (Cond.lays "ChequeredClothModel" "ChequeredClothModel" "limit" "I") ∈ zT := zT_of6 77 rfl rfl
theorem zw_1279 : (Cond.laysFinal "ChequeredClothModel" "ChequeredClothModel" "cost" "[I") ∈ zT := zT_of6 79 rfl rfl
theorem zw_1281 : (Cond.laysFinal "ChequeredClothModel" "ChequeredClothModel" "best" "[I") ∈ zT := zT_of6 81 rfl rfl
theorem zw_1283 : (Cond.laysFinal "ChequeredClothModel" "ChequeredClothModel" "mates" "[I") ∈ zT := zT_of6 83 rfl rfl
theorem zw_1285 : (Cond.laysFinal "ChequeredClothModel" "ChequeredClothModel" "fits" "[I") ∈ zT := zT_of6 85 rfl rfl
theorem zw_1287 : (Cond.laysFinal "ChequeredClothModel" "ChequeredClothModel" "tape" "[I") ∈ zT := zT_of6 87 rfl rfl
theorem zw_1289 : (Cond.lays "ChequeredClothModel" "ChequeredClothModel" "taped" "I") ∈ zT := zT_of6 89 rfl rfl
theorem zw_1291 : (Cond.lays "ChequeredClothModel" "ChequeredClothModel" "at" "I") ∈ zT := zT_of6 91 rfl rfl
theorem zw_1293 : (Cond.lays "ChequeredClothModel" "ChequeredClothModel" "end" "I") ∈ zT := zT_of6 93 rfl rfl
theorem zw_1295 : (Cond.lays "ChequeredClothModel" "ChequeredClothModel" "ended" "I") ∈ zT := zT_of6 95 rfl rfl
theorem zw_1297 : (Cond.lays "ChequeredClothModel" "ChequeredClothModel" "bad" "I") ∈ zT := zT_of6 97 rfl rfl
theorem zw_1299 : (Cond.lays "ChequeredClothModel" "ChequeredClothModel" "badPlace" "I") ∈ zT := zT_of6 99 rfl rfl
theorem zw_1301 : (Cond.lays "ChequeredClothModel" "ChequeredClothModel" "fault" "I") ∈ zT := zT_of6 101 rfl rfl
theorem zw_1303 : (Cond.lays "ChequeredClothModel" "ChequeredClothModel" "faultPlace" "I") ∈ zT := zT_of6 103 rfl rfl
theorem zw_1305 : (Cond.laysFinal "ChequeredClothModel" "ChequeredClothModel" "farmWord" "[C") ∈ zT := zT_of6 105 rfl rfl
theorem zw_1307 : (Cond.laysFinal "ChequeredClothModel" "ChequeredClothModel" "blanchedWord" "[C") ∈ zT := zT_of6 107 rfl rfl
theorem zw_1309 : (Cond.laysFinal "ChequeredClothModel" "ChequeredClothModel" "allowWord" "[C") ∈ zT := zT_of6 109 rfl rfl
theorem zw_1311 : (Cond.laysFinal "ChequeredClothModel" "ChequeredClothModel" "pardonWord" "[C") ∈ zT := zT_of6 111 rfl rfl
theorem zw_1313 : (Cond.laysFinal "ChequeredClothModel" "ChequeredClothModel" "splitWord" "[C") ∈ zT := zT_of6 113 rfl rfl
theorem zw_1315 : (Cond.laysFinal "ChequeredClothModel" "ChequeredClothModel" "inWord" "[C") ∈ zT := zT_of6 115 rfl rfl
theorem zw_1317 : (Cond.laysFinal "ChequeredClothModel" "ChequeredClothModel" "forWord" "[C") ∈ zT := zT_of6 117 rfl rfl
theorem zw_1319 : (Cond.laysFinal "ChequeredClothModel" "ChequeredClothModel" "orWord" "[C") ∈ zT := zT_of6 119 rfl rfl
theorem zw_1321 : (Cond.laysFinal "ChequeredClothModel" "ChequeredClothModel" "andWord" "[C") ∈ zT := zT_of6 121 rfl rfl
theorem zw_1323 : (Cond.laysFinal "ChequeredClothModel" "ChequeredClothModel" "notWord" "[C") ∈ zT := zT_of6 123 rfl rfl
theorem zw_1325 : (Cond.laysFinal "ChequeredClothModel" "ChequeredClothModel" "allWord" "[C") ∈ zT := zT_of6 125 rfl rfl
theorem zw_1327 : (Cond.laysFinal "ChequeredClothModel" "ChequeredClothModel" "shireWord" "[C") ∈ zT := zT_of6 127 rfl rfl
theorem zw_1329 : (Cond.laysFinal "ChequeredClothModel" "ChequeredClothModel" "penceWord" "[C") ∈ zT := zT_of6 129 rfl rfl
theorem zw_1331 : (Cond.laysFinal "ChequeredClothModel" "ChequeredClothModel" "shillingsWord" "[C") ∈ zT := zT_of6 131 rfl rfl
theorem zw_1333 : (Cond.laysFinal "ChequeredClothModel" "ChequeredClothModel" "poundsWord" "[C") ∈ zT := zT_of6 133 rfl rfl
theorem zw_1335 : (Cond.laysFinal "ChequeredClothModel" "ChequeredClothModel" "termWord" "[C") ∈ zT := zT_of6 135 rfl rfl
theorem zw_1337 : (Cond.laysFinal "ChequeredClothModel" "ChequeredClothModel" "yearWord" "[C") ∈ zT := zT_of6 137 rfl rfl
theorem zw_1339 : (Cond.laysFinal "ChequeredClothModel" "ChequeredClothModel" "debtWord" "[C") ∈ zT := zT_of6 139 rfl rfl
theorem zw_1341 : (Cond.laysFinal "ChequeredClothModel" "ChequeredClothModel" "paidWord" "[C") ∈ zT := zT_of6 141 rfl rfl
theorem zw_1343 : (Cond.laysFinal "ChequeredClothModel" "ChequeredClothModel" "minWord" "[C") ∈ zT := zT_of6 143 rfl rfl
theorem zw_1345 : (Cond.laysFinal "ChequeredClothModel" "ChequeredClothModel" "maxWord" "[C") ∈ zT := zT_of6 145 rfl rfl
theorem zw_1347 : (Cond.laysFinal "ChequeredClothModel" "ChequeredClothModel" "many" "[I") ∈ zT := zT_of6 147 rfl rfl
theorem zw_1349 : (Cond.laysFinal "ChequeredClothModel" "ChequeredClothModel" "sort" "[I") ∈ zT := zT_of6 149 rfl rfl
theorem zw_1351 : (Cond.laysFinal "ChequeredClothModel" "ChequeredClothModel" "isBlanched" "[Z") ∈ zT := zT_of6 151 rfl rfl
theorem zw_1353 : (Cond.laysFinal "ChequeredClothModel" "ChequeredClothModel" "first" "[I") ∈ zT := zT_of6 153 rfl rfl
theorem zw_1355 : (Cond.laysFinal "ChequeredClothModel" "ChequeredClothModel" "second" "[I") ∈ zT := zT_of6 155 rfl rfl
theorem zw_1357 : (Cond.laysFinal "ChequeredClothModel" "ChequeredClothModel" "sumFrom" "[I") ∈ zT := zT_of6 157 rfl rfl
theorem zw_1359 : (Cond.laysFinal "ChequeredClothModel" "ChequeredClothModel" "sumEnd" "[I") ∈ zT := zT_of6 159 rfl rfl
theorem zw_1361 : (Cond.laysFinal "ChequeredClothModel" "ChequeredClothModel" "testEnd" "[I") ∈ zT := zT_of6 161 rfl rfl
theorem zw_1363 : (Cond.laysFinal "ChequeredClothModel" "ChequeredClothModel" "codes" "[I") ∈ zT := zT_of6 163 rfl rfl
theorem zw_1365 : (Cond.lays "ChequeredClothModel" "ChequeredClothModel" "coded" "I") ∈ zT := zT_of6 165 rfl rfl
theorem zw_1367 : (Cond.laysFinal "ChequeredClothModel" "ChequeredClothModel" "wait" "[I") ∈ zT := zT_of6 167 rfl rfl
theorem zw_1369 : (Cond.lays "ChequeredClothModel" "ChequeredClothModel" "waits" "I") ∈ zT := zT_of6 169 rfl rfl
theorem zw_1371 : (Cond.lays "ChequeredClothModel" "ChequeredClothModel" "open" "I") ∈ zT := zT_of6 171 rfl rfl
theorem zw_1373 : (Cond.lays "ChequeredClothModel" "ChequeredClothModel" "base" "I") ∈ zT := zT_of6 173 rfl rfl
theorem zw_1375 : (Cond.laysFinal "ChequeredClothModel" "ChequeredClothModel" "pile" "[J") ∈ zT := zT_of6 175 rfl rfl
theorem zw_1377 : (Cond.lays "ChequeredClothModel" "ChequeredClothModel" "piled" "I") ∈ zT := zT_of6 177 rfl rfl
theorem zw_1379 : (Cond.lays "ChequeredClothModel" "ChequeredClothModel" "debt" "J") ∈ zT := zT_of6 179 rfl rfl
theorem zw_1381 : (Cond.lays "ChequeredClothModel" "ChequeredClothModel" "paid" "J") ∈ zT := zT_of6 181 rfl rfl
theorem zw_1383 : (Cond.lays "ChequeredClothModel" "ChequeredClothModel" "now" "I") ∈ zT := zT_of6 183 rfl rfl
theorem zw_1385 : (Cond.lays "ChequeredClothModel" "ChequeredClothModel" "shireNow" "I") ∈ zT := zT_of6 185 rfl rfl
theorem zw_1387 : (Cond.lays "ChequeredClothModel" "ChequeredClothModel" "acts" "I") ∈ zT := zT_of6 187 rfl rfl
theorem zw_1389 : (Cond.laysFinal "ChequeredClothModel" "ChequeredClothModel" "actKind" "[I") ∈ zT := zT_of6 189 rfl rfl
theorem zw_1391 : (Cond.laysFinal "ChequeredClothModel" "ChequeredClothModel" "actTerm" "[I") ∈ zT := zT_of6 191 rfl rfl
theorem zw_1393 : (Cond.laysFinal "ChequeredClothModel" "ChequeredClothModel" "actShire" "[I") ∈ zT := zT_of6 193 rfl rfl
theorem zw_1395 : (Cond.laysFinal "ChequeredClothModel" "ChequeredClothModel" "actNumber" "[I") ∈ zT := zT_of6 195 rfl rfl
theorem zw_1397 : (Cond.laysFinal "ChequeredClothModel" "ChequeredClothModel" "voidAt" "[I") ∈ zT := zT_of6 197 rfl rfl
theorem zw_1399 : (Cond.lays "ChequeredClothModel" "ChequeredClothModel" "as" "I") ∈ zT := zT_of6 199 rfl rfl
theorem zw_1401 : (Cond.lays "ChequeredClothModel" "ChequeredClothModel" "knownAt" "I") ∈ zT := zT_of6 201 rfl rfl
theorem zw_1403 : (Cond.lays "ChequeredClothModel" "ChequeredClothModel" "without" "I") ∈ zT := zT_of6 203 rfl rfl
theorem zw_1405 : (Cond.lays "ChequeredClothModel" "ChequeredClothModel" "movedAct" "I") ∈ zT := zT_of6 205 rfl rfl
theorem zw_1407 : (Cond.lays "ChequeredClothModel" "ChequeredClothModel" "movedTerm" "I") ∈ zT := zT_of6 207 rfl rfl
theorem zw_1409 : (Cond.laysFinal "ChequeredClothModel" "ChequeredClothModel" "off" "[J") ∈ zT := zT_of6 209 rfl rfl
theorem zw_1411 : (Cond.lays "ChequeredClothModel" "ChequeredClothModel" "farms" "J") ∈ zT := zT_of6 211 rfl rfl
theorem zw_1413 : (Cond.lays "ChequeredClothModel" "ChequeredClothModel" "allowed" "J") ∈ zT := zT_of6 213 rfl rfl
theorem zw_1415 : (Cond.lays "ChequeredClothModel" "ChequeredClothModel" "pardoned" "J") ∈ zT := zT_of6 215 rfl rfl
theorem zw_1417 : (Cond.lays "ChequeredClothModel" "ChequeredClothModel" "paidTold" "J") ∈ zT := zT_of6 217 rfl rfl
theorem zw_1419 : (Cond.lays "ChequeredClothModel" "ChequeredClothModel" "isBlanchedNow" "Z") ∈ zT := zT_of6 219 rfl rfl
theorem zw_1421 : (Cond.lays "ChequeredClothModel" "ChequeredClothModel" "moved" "I") ∈ zT := zT_of6 221 rfl rfl
theorem zw_1424 : (Cond.methodLink "ChequeredClothLaw" (27 : Nat) ({ cls := "ChequeredClothModel", name := "put", desc := "(II)Z" } : MethodName)) ∈ zT := zT_of6 224 rfl rfl
theorem zw_1425 : (Cond.instanceMethod ({ cls := "ChequeredClothModel", name := "put", desc := "(II)Z" } : MethodName)) ∈ zT := zT_of6 225 rfl rfl
theorem zw_1426 : (Cond.selects "ChequeredClothModel" ({ cls := "ChequeredClothModel", name := "put", desc := "(II)Z" } : MethodName) ({ cls := "ChequeredClothModel", name := "put", desc := "(II)Z" } : MethodName)) ∈ zT := zT_of6 226 rfl rfl
theorem zw_1427 : (Cond.code ({ cls := "ChequeredClothModel", name := "put", desc := "(II)Z" } : MethodName) prog_14_method_5_code (3 : Nat) (Option.some FieldType.boolean)) ∈ zT := zT_of6 227 rfl rfl
theorem zw_1428 : (Cond.constantLong "ChequeredClothModel" (197 : Nat) (12 : Int64)) ∈ zT := zT_of6 228 rfl rfl
theorem zw_1429 : (Cond.methodLink "ChequeredClothModel" (199 : Nat) ({ cls := "ChequeredClothModel", name := "isIn", desc := "(JJJ)Z" } : MethodName)) ∈ zT := zT_of6 229 rfl rfl
theorem zw_1430 : (Cond.static ({ cls := "ChequeredClothModel", name := "isIn", desc := "(JJJ)Z" } : MethodName)) ∈ zT := zT_of6 230 rfl rfl
theorem zw_1431 : (Cond.code ({ cls := "ChequeredClothModel", name := "isIn", desc := "(JJJ)Z" } : MethodName) prog_14_method_2_code (6 : Nat) (Option.some FieldType.boolean)) ∈ zT := zT_of6 231 rfl rfl
theorem zw_1432 : (Cond.constantLong "ChequeredClothModel" (203 : Nat) (99 : Int64)) ∈ zT := zT_of6 232 rfl rfl
theorem zw_1433 : (Cond.methodLink "ChequeredClothLaw" (32 : Nat) ({ cls := "ChequeredClothModel", name := "lies", desc := "(I)I" } : MethodName)) ∈ zT := zT_of6 233 rfl rfl
theorem zw_1434 : (Cond.instanceMethod ({ cls := "ChequeredClothModel", name := "lies", desc := "(I)I" } : MethodName)) ∈ zT := zT_of6 234 rfl rfl
theorem zw_1435 : (Cond.selects "ChequeredClothModel" ({ cls := "ChequeredClothModel", name := "lies", desc := "(I)I" } : MethodName) ({ cls := "ChequeredClothModel", name := "lies", desc := "(I)I" } : MethodName)) ∈ zT := zT_of6 235 rfl rfl
theorem zw_1436 : (Cond.code ({ cls := "ChequeredClothModel", name := "lies", desc := "(I)I" } : MethodName) prog_14_method_6_code (2 : Nat) (Option.some FieldType.int)) ∈ zT := zT_of6 236 rfl rfl
theorem zw_1437 : (Cond.methodLink "ChequeredClothLaw" (37 : Nat) ({ cls := "ChequeredClothModel", name := "worth", desc := "()J" } : MethodName)) ∈ zT := zT_of6 237 rfl rfl
theorem zw_1438 : (Cond.instanceMethod ({ cls := "ChequeredClothModel", name := "worth", desc := "()J" } : MethodName)) ∈ zT := zT_of6 238 rfl rfl
theorem zw_1439 : (Cond.selects "ChequeredClothModel" ({ cls := "ChequeredClothModel", name := "worth", desc := "()J" } : MethodName) ({ cls := "ChequeredClothModel", name := "worth", desc := "()J" } : MethodName)) ∈ zT := zT_of6 239 rfl rfl
theorem zw_1440 : (Cond.code ({ cls := "ChequeredClothModel", name := "worth", desc := "()J" } : MethodName) prog_14_method_7_code (4 : Nat) (Option.some FieldType.long)) ∈ zT := zT_of7 0 rfl rfl
theorem zw_1441 : (Cond.methodLink "ChequeredClothModel" (193 : Nat) ({ cls := "ChequeredClothModel", name := "value", desc := "(I)J" } : MethodName)) ∈ zT := zT_of7 1 rfl rfl
theorem zw_1443 : (Cond.instanceMethod ({ cls := "ChequeredClothModel", name := "value", desc := "(I)J" } : MethodName)) ∈ zT := zT_of7 3 rfl rfl
theorem zw_1444 : (Cond.code ({ cls := "ChequeredClothModel", name := "value", desc := "(I)J" } : MethodName) prog_14_method_3_code (5 : Nat) (Option.some FieldType.long)) ∈ zT := zT_of7 4 rfl rfl
theorem zw_1445 : (Cond.methodLink "ChequeredClothLaw" (42 : Nat) ({ cls := "ChequeredClothModel", name := "plain", desc := "(II)I" } : MethodName)) ∈ zT := zT_of7 5 rfl rfl
theorem zw_1446 : (Cond.instanceMethod ({ cls := "ChequeredClothModel", name := "plain", desc := "(II)I" } : MethodName)) ∈ zT := zT_of7 6 rfl rfl
theorem zw_1447 : (Cond.selects "ChequeredClothModel" ({ cls := "ChequeredClothModel", name := "plain", desc := "(II)I" } : MethodName) ({ cls := "ChequeredClothModel", name := "plain", desc := "(II)I" } : MethodName)) ∈ zT := zT_of7 7 rfl rfl
theorem zw_1448 : (Cond.code ({ cls := "ChequeredClothModel", name := "plain", desc := "(II)I" } : MethodName) prog_14_method_8_code (3 : Nat) (Option.some FieldType.int)) ∈ zT := zT_of7 8 rfl rfl
theorem zw_1449 : (Cond.constantLong "ChequeredClothModel" (205 : Nat) (1000000000 : Int64)) ∈ zT := zT_of7 9 rfl rfl
theorem zw_1450 : (Cond.methodLink "ChequeredClothModel" (207 : Nat) ({ cls := "ChequeredClothModel", name := "plains", desc := "(I)V" } : MethodName)) ∈ zT := zT_of7 10 rfl rfl
theorem zw_1452 : (Cond.instanceMethod ({ cls := "ChequeredClothModel", name := "plains", desc := "(I)V" } : MethodName)) ∈ zT := zT_of7 12 rfl rfl
theorem zw_1453 : (Cond.code ({ cls := "ChequeredClothModel", name := "plains", desc := "(I)V" } : MethodName) prog_14_method_4_code (5 : Nat) (Option.none : Option FieldType)) ∈ zT := zT_of7 13 rfl rfl
theorem zw_1454 : (Cond.methodLink "ChequeredClothLaw" (46 : Nat) ({ cls := "ChequeredClothModel", name := "lay", desc := "(I)I" } : MethodName)) ∈ zT := zT_of7 14 rfl rfl
theorem zw_1455 : (Cond.instanceMethod ({ cls := "ChequeredClothModel", name := "lay", desc := "(I)I" } : MethodName)) ∈ zT := zT_of7 15 rfl rfl
theorem zw_1456 : (Cond.selects "ChequeredClothModel" ({ cls := "ChequeredClothModel", name := "lay", desc := "(I)I" } : MethodName) ({ cls := "ChequeredClothModel", name := "lay", desc := "(I)I" } : MethodName)) ∈ zT := zT_of7 16 rfl rfl
theorem zw_1457 : (Cond.code ({ cls := "ChequeredClothModel", name := "lay", desc := "(I)I" } : MethodName) prog_14_method_11_code (4 : Nat) (Option.some FieldType.int)) ∈ zT := zT_of7 17 rfl rfl
theorem zw_1458 : (Cond.methodLink "ChequeredClothModel" (211 : Nat) ({ cls := "ChequeredClothModel", name := "works", desc := "()V" } : MethodName)) ∈ zT := zT_of7 18 rfl rfl
theorem zw_1460 : (Cond.instanceMethod ({ cls := "ChequeredClothModel", name := "works", desc := "()V" } : MethodName)) ∈ zT := zT_of7 20 rfl rfl
theorem zw_1461 : (Cond.code ({ cls := "ChequeredClothModel", name := "works", desc := "()V" } : MethodName) prog_14_method_9_code (2 : Nat) (Option.none : Option FieldType)) ∈ zT := zT_of7 21 rfl rfl
theorem zw_1462 : (Cond.methodLink "ChequeredClothModel" (214 : Nat) ({ cls := "ChequeredClothModel", name := "stays", desc := "()V" } : MethodName)) ∈ zT := zT_of7 22 rfl rfl
theorem zw_1464 : (Cond.instanceMethod ({ cls := "ChequeredClothModel", name := "stays", desc := "()V" } : MethodName)) ∈ zT := zT_of7 24 rfl rfl
theorem zw_1465 : (Cond.code ({ cls := "ChequeredClothModel", name := "stays", desc := "()V" } : MethodName) prog_14_method_10_code (2 : Nat) (Option.none : Option FieldType)) ∈ zT := zT_of7 25 rfl rfl
theorem zw_1466 : (Cond.methodLink "ChequeredClothLaw" (50 : Nat) ({ cls := "ChequeredClothModel", name := "draw", desc := "(I)I" } : MethodName)) ∈ zT := zT_of7 26 rfl rfl
theorem zw_1467 : (Cond.instanceMethod ({ cls := "ChequeredClothModel", name := "draw", desc := "(I)I" } : MethodName)) ∈ zT := zT_of7 27 rfl rfl
theorem zw_1468 : (Cond.selects "ChequeredClothModel" ({ cls := "ChequeredClothModel", name := "draw", desc := "(I)I" } : MethodName) ({ cls := "ChequeredClothModel", name := "draw", desc := "(I)I" } : MethodName)) ∈ zT := zT_of7 28 rfl rfl
theorem zw_1469 : (Cond.code ({ cls := "ChequeredClothModel", name := "draw", desc := "(I)I" } : MethodName) prog_14_method_13_code (6 : Nat) (Option.some FieldType.int)) ∈ zT := zT_of7 29 rfl rfl
theorem zw_1470 : (Cond.methodLink "ChequeredClothModel" (217 : Nat) ({ cls := "ChequeredClothModel", name := "worth", desc := "()J" } : MethodName)) ∈ zT := zT_of7 30 rfl rfl
theorem zw_1471 : (Cond.methodLink "ChequeredClothModel" (221 : Nat) ({ cls := "ChequeredClothModel", name := "above", desc := "(I)I" } : MethodName)) ∈ zT := zT_of7 31 rfl rfl
theorem zw_1473 : (Cond.instanceMethod ({ cls := "ChequeredClothModel", name := "above", desc := "(I)I" } : MethodName)) ∈ zT := zT_of7 33 rfl rfl
theorem zw_1474 : (Cond.code ({ cls := "ChequeredClothModel", name := "above", desc := "(I)I" } : MethodName) prog_14_method_12_code (3 : Nat) (Option.some FieldType.int)) ∈ zT := zT_of7 34 rfl rfl
theorem zw_1475 : (Cond.methodLink "ChequeredClothLaw" (54 : Nat) ({ cls := "ChequeredClothModel", name := "steps", desc := "(I)I" } : MethodName)) ∈ zT := zT_of7 35 rfl rfl
theorem zw_1476 : (Cond.instanceMethod ({ cls := "ChequeredClothModel", name := "steps", desc := "(I)I" } : MethodName)) ∈ zT := zT_of7 36 rfl rfl
theorem zw_1477 : (Cond.selects "ChequeredClothModel" ({ cls := "ChequeredClothModel", name := "steps", desc := "(I)I" } : MethodName) ({ cls := "ChequeredClothModel", name := "steps", desc := "(I)I" } : MethodName)) ∈ zT := zT_of7 37 rfl rfl
theorem zw_1478 : (Cond.code ({ cls := "ChequeredClothModel", name := "steps", desc := "(I)I" } : MethodName) prog_14_method_15_code (7 : Nat) (Option.some FieldType.int)) ∈ zT := zT_of7 38 rfl rfl
theorem zw_1479 : (Cond.constant "ChequeredClothModel" (225 : Nat) (100000000 : Int32)) ∈ zT := zT_of7 39 rfl rfl
theorem zw_1480 : (Cond.methodLink "ChequeredClothModel" (226 : Nat) ({ cls := "ChequeredClothModel", name := "size", desc := "(I)I" } : MethodName)) ∈ zT := zT_of7 40 rfl rfl
theorem zw_1481 : (Cond.static ({ cls := "ChequeredClothModel", name := "size", desc := "(I)I" } : MethodName)) ∈ zT := zT_of7 41 rfl rfl
theorem zw_1482 : (Cond.code ({ cls := "ChequeredClothModel", name := "size", desc := "(I)I" } : MethodName) prog_14_method_14_code (1 : Nat) (Option.some FieldType.int)) ∈ zT := zT_of7 42 rfl rfl
theorem zw_1483 : (Cond.methodLink "ChequeredClothLaw" (59 : Nat) ({ cls := "ChequeredClothModel", name := "cut", desc := "(ZIII)I" } : MethodName)) ∈ zT := zT_of7 43 rfl rfl
theorem zw_1484 : (Cond.instanceMethod ({ cls := "ChequeredClothModel", name := "cut", desc := "(ZIII)I" } : MethodName)) ∈ zT := zT_of7 44 rfl rfl
theorem zw_1485 : (Cond.selects "ChequeredClothModel" ({ cls := "ChequeredClothModel", name := "cut", desc := "(ZIII)I" } : MethodName) ({ cls := "ChequeredClothModel", name := "cut", desc := "(ZIII)I" } : MethodName)) ∈ zT := zT_of7 45 rfl rfl
theorem zw_1486 : (Cond.code ({ cls := "ChequeredClothModel", name := "cut", desc := "(ZIII)I" } : MethodName) prog_14_method_17_code (6 : Nat) (Option.some FieldType.int)) ∈ zT := zT_of7 46 rfl rfl
theorem zw_1487 : (Cond.methodLink "ChequeredClothModel" (231 : Nat) ({ cls := "ChequeredClothModel", name := "half", desc := "(ZI)I" } : MethodName)) ∈ zT := zT_of7 47 rfl rfl
theorem zw_1488 : (Cond.static ({ cls := "ChequeredClothModel", name := "half", desc := "(ZI)I" } : MethodName)) ∈ zT := zT_of7 48 rfl rfl
theorem zw_1489 : (Cond.code ({ cls := "ChequeredClothModel", name := "half", desc := "(ZI)I" } : MethodName) prog_14_method_16_code (2 : Nat) (Option.some FieldType.int)) ∈ zT := zT_of7 49 rfl rfl
theorem zw_1490 : (Cond.constantLong "ChequeredClothModel" (229 : Nat) (9 : Int64)) ∈ zT := zT_of7 50 rfl rfl
theorem zw_1491 : (Cond.constantLong "ChequeredClothModel" (235 : Nat) (240 : Int64)) ∈ zT := zT_of7 51 rfl rfl
theorem zw_1492 : (Cond.constantLong "ChequeredClothModel" (237 : Nat) (5 : Int64)) ∈ zT := zT_of7 52 rfl rfl
theorem zw_1493 : (Cond.methodLink "ChequeredClothLaw" (64 : Nat) ({ cls := "ChequeredClothModel", name := "burn", desc := "(ZI)Z" } : MethodName)) ∈ zT := zT_of7 53 rfl rfl
theorem zw_1494 : (Cond.instanceMethod ({ cls := "ChequeredClothModel", name := "burn", desc := "(ZI)Z" } : MethodName)) ∈ zT := zT_of7 54 rfl rfl
theorem zw_1495 : (Cond.selects "ChequeredClothModel" ({ cls := "ChequeredClothModel", name := "burn", desc := "(ZI)Z" } : MethodName) ({ cls := "ChequeredClothModel", name := "burn", desc := "(ZI)Z" } : MethodName)) ∈ zT := zT_of7 55 rfl rfl
theorem zw_1496 : (Cond.code ({ cls := "ChequeredClothModel", name := "burn", desc := "(ZI)Z" } : MethodName) prog_14_method_19_code (4 : Nat) (Option.some FieldType.boolean)) ∈ zT := zT_of7 56 rfl rfl
theorem zw_1497 : (Cond.methodLink "ChequeredClothModel" (239 : Nat) ({ cls := "ChequeredClothModel", name := "isThere", desc := "(I)Z" } : MethodName)) ∈ zT := zT_of7 57 rfl rfl
theorem zw_1499 : (Cond.instanceMethod ({ cls := "ChequeredClothModel", name := "isThere", desc := "(I)Z" } : MethodName)) ∈ zT := zT_of7 59 rfl rfl
theorem zw_1500 : (Cond.code ({ cls := "ChequeredClothModel", name := "isThere", desc := "(I)Z" } : MethodName) prog_14_method_18_code (2 : Nat) (Option.some FieldType.boolean)) ∈ zT := zT_of7 60 rfl rfl
theorem zw_1501 : (Cond.methodLink "ChequeredClothLaw" (69 : Nat) ({ cls := "ChequeredClothModel", name := "sum", desc := "(ZI)I" } : MethodName)) ∈ zT := zT_of7 61 rfl rfl
theorem zw_1502 : (Cond.instanceMethod ({ cls := "ChequeredClothModel", name := "sum", desc := "(ZI)I" } : MethodName)) ∈ zT := zT_of7 62 rfl rfl
theorem zw_1503 : (Cond.selects "ChequeredClothModel" ({ cls := "ChequeredClothModel", name := "sum", desc := "(ZI)I" } : MethodName) ({ cls := "ChequeredClothModel", name := "sum", desc := "(ZI)I" } : MethodName)) ∈ zT := zT_of7 63 rfl rfl
theorem zw_1504 : (Cond.code ({ cls := "ChequeredClothModel", name := "sum", desc := "(ZI)I" } : MethodName) prog_14_method_21_code (4 : Nat) (Option.some FieldType.int)) ∈ zT := zT_of7 64 rfl rfl
theorem zw_1505 : (Cond.methodLink "ChequeredClothModel" (243 : Nat) ({ cls := "ChequeredClothModel", name := "sumOf", desc := "(I)I" } : MethodName)) ∈ zT := zT_of7 65 rfl rfl
theorem zw_1507 : (Cond.instanceMethod ({ cls := "ChequeredClothModel", name := "sumOf", desc := "(I)I" } : MethodName)) ∈ zT := zT_of7 67 rfl rfl
theorem zw_1508 : (Cond.code ({ cls := "ChequeredClothModel", name := "sumOf", desc := "(I)I" } : MethodName) prog_14_method_20_code (4 : Nat) (Option.some FieldType.int)) ∈ zT := zT_of7 68 rfl rfl
theorem zw_1509 : (Cond.methodLink "ChequeredClothLaw" (74 : Nat) ({ cls := "ChequeredClothModel", name := "wear", desc := "(III)Z" } : MethodName)) ∈ zT := zT_of7 69 rfl rfl
theorem zw_1510 : (Cond.instanceMethod ({ cls := "ChequeredClothModel", name := "wear", desc := "(III)Z" } : MethodName)) ∈ zT := zT_of7 70 rfl rfl
theorem zw_1511 : (Cond.selects "ChequeredClothModel" ({ cls := "ChequeredClothModel", name := "wear", desc := "(III)Z" } : MethodName) ({ cls := "ChequeredClothModel", name := "wear", desc := "(III)Z" } : MethodName)) ∈ zT := zT_of7 71 rfl rfl
theorem zw_1512 : (Cond.code ({ cls := "ChequeredClothModel", name := "wear", desc := "(III)Z" } : MethodName) prog_14_method_22_code (4 : Nat) (Option.some FieldType.boolean)) ∈ zT := zT_of7 72 rfl rfl
theorem zw_1513 : (Cond.constantLong "ChequeredClothModel" (246 : Nat) (20 : Int64)) ∈ zT := zT_of7 73 rfl rfl
theorem zw_1514 : (Cond.constantLong "ChequeredClothModel" (248 : Nat) (100 : Int64)) ∈ zT := zT_of7 74 rfl rfl
theorem zw_1515 : (Cond.constantLong "ChequeredClothModel" (250 : Nat) (500 : Int64)) ∈ zT := zT_of7 75 rfl rfl
theorem zw_1516 : (Cond.methodLink "ChequeredClothLaw" (78 : Nat) ({ cls := "ChequeredClothModel", name := "fit", desc := "(II)I" } : MethodName)) ∈ zT := zT_of7 76 rfl rfl
theorem zw_1517 : (Cond.instanceMethod ({ cls := "ChequeredClothModel", name := "fit", desc := "(II)I" } : MethodName)) ∈ zT := zT_of7 77 rfl rfl
theorem zw_1518 : (Cond.selects "ChequeredClothModel" ({ cls := "ChequeredClothModel", name := "fit", desc := "(II)I" } : MethodName) ({ cls := "ChequeredClothModel", name := "fit", desc := "(II)I" } : MethodName)) ∈ zT := zT_of7 78 rfl rfl
theorem zw_1519 : (Cond.code ({ cls := "ChequeredClothModel", name := "fit", desc := "(II)I" } : MethodName) prog_14_method_25_code (5 : Nat) (Option.some FieldType.int)) ∈ zT := zT_of7 79 rfl rfl
theorem zw_1520 : (Cond.methodLink "ChequeredClothModel" (256 : Nat) ({ cls := "ChequeredClothModel", name := "fitOf", desc := "(II)I" } : MethodName)) ∈ zT := zT_of7 80 rfl rfl
theorem zw_1522 : (Cond.instanceMethod ({ cls := "ChequeredClothModel", name := "fitOf", desc := "(II)I" } : MethodName)) ∈ zT := zT_of7 82 rfl rfl
theorem zw_1523 : (Cond.code ({ cls := "ChequeredClothModel", name := "fitOf", desc := "(II)I" } : MethodName) prog_14_method_23_code (7 : Nat) (Option.some FieldType.int)) ∈ zT := zT_of7 83 rfl rfl
theorem zw_1524 : (Cond.methodLink "ChequeredClothModel" (252 : Nat) ({ cls := "ChequeredClothModel", name := "pairs", desc := "(II)Z" } : MethodName)) ∈ zT := zT_of7 84 rfl rfl
theorem zw_1526 : (Cond.instanceMethod ({ cls := "ChequeredClothModel", name := "pairs", desc := "(II)Z" } : MethodName)) ∈ zT := zT_of7 86 rfl rfl
theorem zw_1527 : (Cond.code ({ cls := "ChequeredClothModel", name := "pairs", desc := "(II)Z" } : MethodName) prog_14_method_24_code (3 : Nat) (Option.some FieldType.boolean)) ∈ zT := zT_of7 87 rfl rfl
theorem zw_1528 : (Cond.methodLink "ChequeredClothLaw" (82 : Nat) ({ cls := "ChequeredClothModel", name := "mate", desc := "(I)I" } : MethodName)) ∈ zT := zT_of7 88 rfl rfl
theorem zw_1529 : (Cond.instanceMethod ({ cls := "ChequeredClothModel", name := "mate", desc := "(I)I" } : MethodName)) ∈ zT := zT_of7 89 rfl rfl
theorem zw_1530 : (Cond.selects "ChequeredClothModel" ({ cls := "ChequeredClothModel", name := "mate", desc := "(I)I" } : MethodName) ({ cls := "ChequeredClothModel", name := "mate", desc := "(I)I" } : MethodName)) ∈ zT := zT_of7 90 rfl rfl
theorem zw_1531 : (Cond.code ({ cls := "ChequeredClothModel", name := "mate", desc := "(I)I" } : MethodName) prog_14_method_29_code (2 : Nat) (Option.some FieldType.int)) ∈ zT := zT_of7 91 rfl rfl
theorem zw_1532 : (Cond.methodLink "ChequeredClothModel" (269 : Nat) ({ cls := "ChequeredClothModel", name := "matches", desc := "()V" } : MethodName)) ∈ zT := zT_of7 92 rfl rfl
theorem zw_1534 : (Cond.instanceMethod ({ cls := "ChequeredClothModel", name := "matches", desc := "()V" } : MethodName)) ∈ zT := zT_of7 94 rfl rfl
theorem zw_1535 : (Cond.code ({ cls := "ChequeredClothModel", name := "matches", desc := "()V" } : MethodName) prog_14_method_26_code (5 : Nat) (Option.none : Option FieldType)) ∈ zT := zT_of7 95 rfl rfl
theorem zw_1536 : (Cond.methodLink "ChequeredClothModel" (260 : Nat) ({ cls := "ChequeredClothModel", name := "canPair", desc := "(III)Z" } : MethodName)) ∈ zT := zT_of7 96 rfl rfl
theorem zw_1538 : (Cond.instanceMethod ({ cls := "ChequeredClothModel", name := "canPair", desc := "(III)Z" } : MethodName)) ∈ zT := zT_of7 98 rfl rfl
theorem zw_1539 : (Cond.code ({ cls := "ChequeredClothModel", name := "canPair", desc := "(III)Z" } : MethodName) prog_14_method_27_code (4 : Nat) (Option.some FieldType.boolean)) ∈ zT := zT_of7 99 rfl rfl
theorem zw_1540 : (Cond.methodLink "ChequeredClothModel" (264 : Nat) ({ cls := "ChequeredClothModel", name := "paired", desc := "(III)I" } : MethodName)) ∈ zT := zT_of7 100 rfl rfl
theorem zw_1542 : (Cond.instanceMethod ({ cls := "ChequeredClothModel", name := "paired", desc := "(III)I" } : MethodName)) ∈ zT := zT_of7 102 rfl rfl
theorem zw_1543 : (Cond.code ({ cls := "ChequeredClothModel", name := "paired", desc := "(III)I" } : MethodName) prog_14_method_28_code (4 : Nat) (Option.some FieldType.int)) ∈ zT := zT_of7 103 rfl rfl
theorem zw_1544 : (Cond.constant "ChequeredClothModel" (268 : Nat) (100000 : Int32)) ∈ zT := zT_of7 104 rfl rfl
theorem zw_1545 : (Cond.methodLink "ChequeredClothLaw" (86 : Nat) ({ cls := "ChequeredClothModel", name := "matched", desc := "(I)I" } : MethodName)) ∈ zT := zT_of7 105 rfl rfl
theorem zw_1546 : (Cond.instanceMethod ({ cls := "ChequeredClothModel", name := "matched", desc := "(I)I" } : MethodName)) ∈ zT := zT_of7 106 rfl rfl
theorem zw_1547 : (Cond.selects "ChequeredClothModel" ({ cls := "ChequeredClothModel", name := "matched", desc := "(I)I" } : MethodName) ({ cls := "ChequeredClothModel", name := "matched", desc := "(I)I" } : MethodName)) ∈ zT := zT_of7 107 rfl rfl
theorem zw_1548 : (Cond.code ({ cls := "ChequeredClothModel", name := "matched", desc := "(I)I" } : MethodName) prog_14_method_30_code (5 : Nat) (Option.some FieldType.int)) ∈ zT := zT_of7 108 rfl rfl
theorem zw_1549 : (Cond.methodLink "ChequeredClothLaw" (17 : Nat) ({ cls := "ChequeredClothModel", name := "feed", desc := "(IIIII)I" } : MethodName)) ∈ zT := zT_of7 109 rfl rfl
theorem zw_1550 : (Cond.instanceMethod ({ cls := "ChequeredClothModel", name := "feed", desc := "(IIIII)I" } : MethodName)) ∈ zT := zT_of7 110 rfl rfl
theorem zw_1551 : (Cond.selects "ChequeredClothModel" ({ cls := "ChequeredClothModel", name := "feed", desc := "(IIIII)I" } : MethodName) ({ cls := "ChequeredClothModel", name := "feed", desc := "(IIIII)I" } : MethodName)) ∈ zT := zT_of7 111 rfl rfl
theorem zw_1552 : (Cond.code ({ cls := "ChequeredClothModel", name := "feed", desc := "(IIIII)I" } : MethodName) prog_14_method_31_code (8 : Nat) (Option.some FieldType.int)) ∈ zT := zT_of7 112 rfl rfl
theorem zw_1553 : (Cond.methodLink "ChequeredClothLaw" (22 : Nat) ({ cls := "ChequeredClothModel", name := "end", desc := "(I)Z" } : MethodName)) ∈ zT := zT_of7 113 rfl rfl
theorem zw_1554 : (Cond.instanceMethod ({ cls := "ChequeredClothModel", name := "end", desc := "(I)Z" } : MethodName)) ∈ zT := zT_of7 114 rfl rfl
theorem zw_1555 : (Cond.selects "ChequeredClothModel" ({ cls := "ChequeredClothModel", name := "end", desc := "(I)Z" } : MethodName) ({ cls := "ChequeredClothModel", name := "end", desc := "(I)Z" } : MethodName)) ∈ zT := zT_of7 115 rfl rfl
theorem zw_1556 : (Cond.code ({ cls := "ChequeredClothModel", name := "end", desc := "(I)Z" } : MethodName) prog_14_method_32_code (2 : Nat) (Option.some FieldType.boolean)) ∈ zT := zT_of7 116 rfl rfl
theorem zw_1557 : (Cond.methodLink "ChequeredClothLaw" (90 : Nat) ({ cls := "ChequeredClothModel", name := "writ", desc := "(I)I" } : MethodName)) ∈ zT := zT_of7 117 rfl rfl
theorem zw_1558 : (Cond.instanceMethod ({ cls := "ChequeredClothModel", name := "writ", desc := "(I)I" } : MethodName)) ∈ zT := zT_of7 118 rfl rfl
theorem zw_1559 : (Cond.selects "ChequeredClothModel" ({ cls := "ChequeredClothModel", name := "writ", desc := "(I)I" } : MethodName) ({ cls := "ChequeredClothModel", name := "writ", desc := "(I)I" } : MethodName)) ∈ zT := zT_of7 119 rfl rfl
theorem zw_1560 : (Cond.code ({ cls := "ChequeredClothModel", name := "writ", desc := "(I)I" } : MethodName) prog_14_method_70_code (3 : Nat) (Option.some FieldType.int)) ∈ zT := zT_of7 120 rfl rfl
theorem zw_1561 : (Cond.methodLink "ChequeredClothModel" (432 : Nat) ({ cls := "ChequeredClothModel", name := "isTerm", desc := "(I)Z" } : MethodName)) ∈ zT := zT_of7 121 rfl rfl
theorem zw_1562 : (Cond.static ({ cls := "ChequeredClothModel", name := "isTerm", desc := "(I)Z" } : MethodName)) ∈ zT := zT_of7 122 rfl rfl
theorem zw_1563 : (Cond.code ({ cls := "ChequeredClothModel", name := "isTerm", desc := "(I)Z" } : MethodName) prog_14_method_67_code (1 : Nat) (Option.some FieldType.boolean)) ∈ zT := zT_of7 123 rfl rfl
theorem zw_1564 : (Cond.constantLong "ChequeredClothModel" (425 : Nat) (39 : Int64)) ∈ zT := zT_of7 124 rfl rfl
theorem zw_1565 : (Cond.methodLink "ChequeredClothModel" (435 : Nat) ({ cls := "ChequeredClothModel", name := "reads", desc := "()Z" } : MethodName)) ∈ zT := zT_of7 125 rfl rfl
theorem zw_1567 : (Cond.instanceMethod ({ cls := "ChequeredClothModel", name := "reads", desc := "()Z" } : MethodName)) ∈ zT := zT_of7 127 rfl rfl
theorem zw_1568 : (Cond.code ({ cls := "ChequeredClothModel", name := "reads", desc := "()Z" } : MethodName) prog_14_method_60_code (1 : Nat) (Option.some FieldType.boolean)) ∈ zT := zT_of7 128 rfl rfl
theorem zw_1569 : (Cond.methodLink "ChequeredClothModel" (287 : Nat) ({ cls := "ChequeredClothModel", name := "look", desc := "()I" } : MethodName)) ∈ zT := zT_of7 129 rfl rfl
theorem zw_1571 : (Cond.instanceMethod ({ cls := "ChequeredClothModel", name := "look", desc := "()I" } : MethodName)) ∈ zT := zT_of7 131 rfl rfl
theorem zw_1572 : (Cond.code ({ cls := "ChequeredClothModel", name := "look", desc := "()I" } : MethodName) prog_14_method_36_code (1 : Nat) (Option.some FieldType.int)) ∈ zT := zT_of7 132 rfl rfl
theorem zw_1573 : (Cond.methodLink "ChequeredClothModel" (386 : Nat) ({ cls := "ChequeredClothModel", name := "statement", desc := "()V" } : MethodName)) ∈ zT := zT_of7 133 rfl rfl
theorem zw_1575 : (Cond.instanceMethod ({ cls := "ChequeredClothModel", name := "statement", desc := "()V" } : MethodName)) ∈ zT := zT_of7 135 rfl rfl
theorem zw_1576 : (Cond.code ({ cls := "ChequeredClothModel", name := "statement", desc := "()V" } : MethodName) prog_14_method_59_code (2 : Nat) (Option.none : Option FieldType)) ∈ zT := zT_of7 136 rfl rfl
theorem zw_1577 : (Cond.methodLink "ChequeredClothModel" (304 : Nat) ({ cls := "ChequeredClothModel", name := "fail", desc := "(II)V" } : MethodName)) ∈ zT := zT_of7 137 rfl rfl
theorem zw_1579 : (Cond.instanceMethod ({ cls := "ChequeredClothModel", name := "fail", desc := "(II)V" } : MethodName)) ∈ zT := zT_of7 139 rfl rfl
theorem zw_1580 : (Cond.code ({ cls := "ChequeredClothModel", name := "fail", desc := "(II)V" } : MethodName) prog_14_method_33_code (3 : Nat) (Option.none : Option FieldType)) ∈ zT := zT_of7 140 rfl rfl
theorem zw_1581 : (Cond.methodLink "ChequeredClothModel" (301 : Nat) ({ cls := "ChequeredClothModel", name := "takes", desc := "([C)Z" } : MethodName)) ∈ zT := zT_of7 141 rfl rfl
theorem zw_1583 : (Cond.instanceMethod ({ cls := "ChequeredClothModel", name := "takes", desc := "([C)Z" } : MethodName)) ∈ zT := zT_of7 143 rfl rfl
theorem zw_1584 : (Cond.code ({ cls := "ChequeredClothModel", name := "takes", desc := "([C)Z" } : MethodName) prog_14_method_38_code (2 : Nat) (Option.some FieldType.boolean)) ∈ zT := zT_of7 144 rfl rfl
theorem zw_1585 : (Cond.methodLink "ChequeredClothModel" (297 : Nat) ({ cls := "ChequeredClothModel", name := "isHere", desc := "([C)Z" } : MethodName)) ∈ zT := zT_of7 145 rfl rfl
theorem zw_1587 : (Cond.instanceMethod ({ cls := "ChequeredClothModel", name := "isHere", desc := "([C)Z" } : MethodName)) ∈ zT := zT_of7 147 rfl rfl
theorem zw_1588 : (Cond.code ({ cls := "ChequeredClothModel", name := "isHere", desc := "([C)Z" } : MethodName) prog_14_method_37_code (4 : Nat) (Option.some FieldType.boolean)) ∈ zT := zT_of7 148 rfl rfl
theorem zw_1589 : (Cond.methodLink "ChequeredClothModel" (291 : Nat) ({ cls := "ChequeredClothModel", name := "isLetter", desc := "(I)Z" } : MethodName)) ∈ zT := zT_of7 149 rfl rfl
theorem zw_1590 : (Cond.static ({ cls := "ChequeredClothModel", name := "isLetter", desc := "(I)Z" } : MethodName)) ∈ zT := zT_of7 150 rfl rfl
theorem zw_1591 : (Cond.code ({ cls := "ChequeredClothModel", name := "isLetter", desc := "(I)Z" } : MethodName) prog_14_method_34_code (1 : Nat) (Option.some FieldType.boolean)) ∈ zT := zT_of7 151 rfl rfl
theorem zw_1592 : (Cond.methodLink "ChequeredClothModel" (368 : Nat) ({ cls := "ChequeredClothModel", name := "sums", desc := "()V" } : MethodName)) ∈ zT := zT_of7 152 rfl rfl
theorem zw_1594 : (Cond.instanceMethod ({ cls := "ChequeredClothModel", name := "sums", desc := "()V" } : MethodName)) ∈ zT := zT_of7 154 rfl rfl
theorem zw_1595 : (Cond.code ({ cls := "ChequeredClothModel", name := "sums", desc := "()V" } : MethodName) prog_14_method_53_code (3 : Nat) (Option.none : Option FieldType)) ∈ zT := zT_of7 155 rfl rfl
theorem zw_1596 : (Cond.methodLink "ChequeredClothModel" (361 : Nat) ({ cls := "ChequeredClothModel", name := "part", desc := "()V" } : MethodName)) ∈ zT := zT_of7 156 rfl rfl
theorem zw_1598 : (Cond.instanceMethod ({ cls := "ChequeredClothModel", name := "part", desc := "()V" } : MethodName)) ∈ zT := zT_of7 158 rfl rfl
theorem zw_1599 : (Cond.code ({ cls := "ChequeredClothModel", name := "part", desc := "()V" } : MethodName) prog_14_method_50_code (5 : Nat) (Option.none : Option FieldType)) ∈ zT := zT_of7 159 rfl rfl
theorem zw_1600 : (Cond.methodLink "ChequeredClothModel" (335 : Nat) ({ cls := "ChequeredClothModel", name := "opens", desc := "(II)V" } : MethodName)) ∈ zT := zT_of7 160 rfl rfl
theorem zw_1602 : (Cond.instanceMethod ({ cls := "ChequeredClothModel", name := "opens", desc := "(II)V" } : MethodName)) ∈ zT := zT_of7 162 rfl rfl
theorem zw_1603 : (Cond.code ({ cls := "ChequeredClothModel", name := "opens", desc := "(II)V" } : MethodName) prog_14_method_44_code (3 : Nat) (Option.none : Option FieldType)) ∈ zT := zT_of7 163 rfl rfl
theorem zw_1604 : (Cond.methodLink "ChequeredClothModel" (338 : Nat) ({ cls := "ChequeredClothModel", name := "asks", desc := "([C)V" } : MethodName)) ∈ zT := zT_of7 164 rfl rfl
theorem zw_1606 : (Cond.instanceMethod ({ cls := "ChequeredClothModel", name := "asks", desc := "([C)V" } : MethodName)) ∈ zT := zT_of7 166 rfl rfl
theorem zw_1607 : (Cond.code ({ cls := "ChequeredClothModel", name := "asks", desc := "([C)V" } : MethodName) prog_14_method_39_code (2 : Nat) (Option.none : Option FieldType)) ∈ zT := zT_of7 167 rfl rfl
theorem zw_1608 : (Cond.methodLink "ChequeredClothModel" (342 : Nat) ({ cls := "ChequeredClothModel", name := "asksSign", desc := "(I)V" } : MethodName)) ∈ zT := zT_of7 168 rfl rfl
theorem zw_1610 : (Cond.instanceMethod ({ cls := "ChequeredClothModel", name := "asksSign", desc := "(I)V" } : MethodName)) ∈ zT := zT_of7 170 rfl rfl
theorem zw_1611 : (Cond.code ({ cls := "ChequeredClothModel", name := "asksSign", desc := "(I)V" } : MethodName) prog_14_method_41_code (2 : Nat) (Option.none : Option FieldType)) ∈ zT := zT_of7 171 rfl rfl
theorem zw_1612 : (Cond.methodLink "ChequeredClothModel" (308 : Nat) ({ cls := "ChequeredClothModel", name := "takesSign", desc := "(I)Z" } : MethodName)) ∈ zT := zT_of7 172 rfl rfl
theorem zw_1614 : (Cond.instanceMethod ({ cls := "ChequeredClothModel", name := "takesSign", desc := "(I)Z" } : MethodName)) ∈ zT := zT_of7 174 rfl rfl
theorem zw_1615 : (Cond.code ({ cls := "ChequeredClothModel", name := "takesSign", desc := "(I)Z" } : MethodName) prog_14_method_40_code (2 : Nat) (Option.some FieldType.boolean)) ∈ zT := zT_of7 175 rfl rfl
theorem zw_1616 : (Cond.methodLink "ChequeredClothModel" (323 : Nat) ({ cls := "ChequeredClothModel", name := "code", desc := "(I)V" } : MethodName)) ∈ zT := zT_of7 176 rfl rfl
theorem zw_1618 : (Cond.instanceMethod ({ cls := "ChequeredClothModel", name := "code", desc := "(I)V" } : MethodName)) ∈ zT := zT_of7 178 rfl rfl
theorem zw_1619 : (Cond.code ({ cls := "ChequeredClothModel", name := "code", desc := "(I)V" } : MethodName) prog_14_method_43_code (2 : Nat) (Option.none : Option FieldType)) ∈ zT := zT_of7 179 rfl rfl
theorem zw_1620 : (Cond.methodLink "ChequeredClothModel" (345 : Nat) ({ cls := "ChequeredClothModel", name := "numberPart", desc := "()V" } : MethodName)) ∈ zT := zT_of7 180 rfl rfl
theorem zw_1622 : (Cond.instanceMethod ({ cls := "ChequeredClothModel", name := "numberPart", desc := "()V" } : MethodName)) ∈ zT := zT_of7 182 rfl rfl
theorem zw_1623 : (Cond.code ({ cls := "ChequeredClothModel", name := "numberPart", desc := "()V" } : MethodName) prog_14_method_51_code (3 : Nat) (Option.none : Option FieldType)) ∈ zT := zT_of7 183 rfl rfl
theorem zw_1624 : (Cond.constant "ChequeredClothModel" (348 : Nat) (99999 : Int32)) ∈ zT := zT_of7 184 rfl rfl
theorem zw_1625 : (Cond.methodLink "ChequeredClothModel" (349 : Nat) ({ cls := "ChequeredClothModel", name := "number", desc := "(II)I" } : MethodName)) ∈ zT := zT_of7 185 rfl rfl
theorem zw_1627 : (Cond.instanceMethod ({ cls := "ChequeredClothModel", name := "number", desc := "(II)I" } : MethodName)) ∈ zT := zT_of7 187 rfl rfl
theorem zw_1628 : (Cond.code ({ cls := "ChequeredClothModel", name := "number", desc := "(II)I" } : MethodName) prog_14_method_42_code (5 : Nat) (Option.some FieldType.int)) ∈ zT := zT_of7 188 rfl rfl
theorem zw_1629 : (Cond.methodLink "ChequeredClothModel" (311 : Nat) ({ cls := "ChequeredClothModel", name := "isDigit", desc := "(I)Z" } : MethodName)) ∈ zT := zT_of7 189 rfl rfl
theorem zw_1630 : (Cond.static ({ cls := "ChequeredClothModel", name := "isDigit", desc := "(I)Z" } : MethodName)) ∈ zT := zT_of7 190 rfl rfl
theorem zw_1631 : (Cond.code ({ cls := "ChequeredClothModel", name := "isDigit", desc := "(I)Z" } : MethodName) prog_14_method_35_code (1 : Nat) (Option.some FieldType.boolean)) ∈ zT := zT_of7 191 rfl rfl
theorem zw_1632 : (Cond.methodLink "ChequeredClothModel" (364 : Nat) ({ cls := "ChequeredClothModel", name := "goesOn", desc := "()Z" } : MethodName)) ∈ zT := zT_of7 192 rfl rfl
theorem zw_1634 : (Cond.instanceMethod ({ cls := "ChequeredClothModel", name := "goesOn", desc := "()Z" } : MethodName)) ∈ zT := zT_of7 194 rfl rfl
theorem zw_1635 : (Cond.code ({ cls := "ChequeredClothModel", name := "goesOn", desc := "()Z" } : MethodName) prog_14_method_52_code (2 : Nat) (Option.some FieldType.boolean)) ∈ zT := zT_of7 195 rfl rfl
theorem zw_1636 : (Cond.methodLink "ChequeredClothModel" (352 : Nat) ({ cls := "ChequeredClothModel", name := "mark", desc := "()I" } : MethodName)) ∈ zT := zT_of7 196 rfl rfl
theorem zw_1638 : (Cond.instanceMethod ({ cls := "ChequeredClothModel", name := "mark", desc := "()I" } : MethodName)) ∈ zT := zT_of7 198 rfl rfl
theorem zw_1639 : (Cond.code ({ cls := "ChequeredClothModel", name := "mark", desc := "()I" } : MethodName) prog_14_method_48_code (2 : Nat) (Option.some FieldType.int)) ∈ zT := zT_of7 199 rfl rfl
theorem zw_1640 : (Cond.methodLink "ChequeredClothModel" (329 : Nat) ({ cls := "ChequeredClothModel", name := "isMark", desc := "(I)Z" } : MethodName)) ∈ zT := zT_of7 200 rfl rfl
theorem zw_1642 : (Cond.instanceMethod ({ cls := "ChequeredClothModel", name := "isMark", desc := "(I)Z" } : MethodName)) ∈ zT := zT_of7 202 rfl rfl
theorem zw_1643 : (Cond.code ({ cls := "ChequeredClothModel", name := "isMark", desc := "(I)Z" } : MethodName) prog_14_method_47_code (2 : Nat) (Option.some FieldType.boolean)) ∈ zT := zT_of7 203 rfl rfl
theorem zw_1644 : (Cond.methodLink "ChequeredClothModel" (355 : Nat) ({ cls := "ChequeredClothModel", name := "dropsToMark", desc := "()V" } : MethodName)) ∈ zT := zT_of7 204 rfl rfl
theorem zw_1646 : (Cond.instanceMethod ({ cls := "ChequeredClothModel", name := "dropsToMark", desc := "()V" } : MethodName)) ∈ zT := zT_of7 206 rfl rfl
theorem zw_1647 : (Cond.code ({ cls := "ChequeredClothModel", name := "dropsToMark", desc := "()V" } : MethodName) prog_14_method_49_code (1 : Nat) (Option.none : Option FieldType)) ∈ zT := zT_of7 207 rfl rfl
theorem zw_1648 : (Cond.methodLink "ChequeredClothModel" (332 : Nat) ({ cls := "ChequeredClothModel", name := "drops", desc := "()V" } : MethodName)) ∈ zT := zT_of7 208 rfl rfl
theorem zw_1650 : (Cond.instanceMethod ({ cls := "ChequeredClothModel", name := "drops", desc := "()V" } : MethodName)) ∈ zT := zT_of7 210 rfl rfl
theorem zw_1651 : (Cond.code ({ cls := "ChequeredClothModel", name := "drops", desc := "()V" } : MethodName) prog_14_method_46_code (1 : Nat) (Option.none : Option FieldType)) ∈ zT := zT_of7 211 rfl rfl
theorem zw_1652 : (Cond.methodLink "ChequeredClothModel" (358 : Nat) ({ cls := "ChequeredClothModel", name := "isOn", desc := "(I)Z" } : MethodName)) ∈ zT := zT_of7 212 rfl rfl
theorem zw_1654 : (Cond.instanceMethod ({ cls := "ChequeredClothModel", name := "isOn", desc := "(I)Z" } : MethodName)) ∈ zT := zT_of7 214 rfl rfl
theorem zw_1655 : (Cond.code ({ cls := "ChequeredClothModel", name := "isOn", desc := "(I)Z" } : MethodName) prog_14_method_45_code (2 : Nat) (Option.some FieldType.boolean)) ∈ zT := zT_of7 215 rfl rfl
theorem zw_1656 : (Cond.methodLink "ChequeredClothModel" (383 : Nat) ({ cls := "ChequeredClothModel", name := "test", desc := "()V" } : MethodName)) ∈ zT := zT_of7 216 rfl rfl
theorem zw_1658 : (Cond.instanceMethod ({ cls := "ChequeredClothModel", name := "test", desc := "()V" } : MethodName)) ∈ zT := zT_of7 218 rfl rfl
theorem zw_1659 : (Cond.code ({ cls := "ChequeredClothModel", name := "test", desc := "()V" } : MethodName) prog_14_method_57_code (3 : Nat) (Option.none : Option FieldType)) ∈ zT := zT_of7 219 rfl rfl
theorem zw_1660 : (Cond.methodLink "ChequeredClothModel" (371 : Nat) ({ cls := "ChequeredClothModel", name := "fact", desc := "()V" } : MethodName)) ∈ zT := zT_of7 220 rfl rfl
theorem zw_1662 : (Cond.instanceMethod ({ cls := "ChequeredClothModel", name := "fact", desc := "()V" } : MethodName)) ∈ zT := zT_of7 222 rfl rfl
theorem zw_1663 : (Cond.code ({ cls := "ChequeredClothModel", name := "fact", desc := "()V" } : MethodName) prog_14_method_54_code (2 : Nat) (Option.none : Option FieldType)) ∈ zT := zT_of7 223 rfl rfl
theorem zw_1664 : (Cond.methodLink "ChequeredClothModel" (374 : Nat) ({ cls := "ChequeredClothModel", name := "dropsNots", desc := "()V" } : MethodName)) ∈ zT := zT_of7 224 rfl rfl
theorem zw_1666 : (Cond.instanceMethod ({ cls := "ChequeredClothModel", name := "dropsNots", desc := "()V" } : MethodName)) ∈ zT := zT_of7 226 rfl rfl
theorem zw_1667 : (Cond.code ({ cls := "ChequeredClothModel", name := "dropsNots", desc := "()V" } : MethodName) prog_14_method_56_code (1 : Nat) (Option.none : Option FieldType)) ∈ zT := zT_of7 227 rfl rfl
theorem zw_1668 : (Cond.methodLink "ChequeredClothModel" (377 : Nat) ({ cls := "ChequeredClothModel", name := "goesOnTest", desc := "()Z" } : MethodName)) ∈ zT := zT_of7 228 rfl rfl
theorem zw_1670 : (Cond.instanceMethod ({ cls := "ChequeredClothModel", name := "goesOnTest", desc := "()Z" } : MethodName)) ∈ zT := zT_of7 230 rfl rfl
theorem zw_1671 : (Cond.code ({ cls := "ChequeredClothModel", name := "goesOnTest", desc := "()Z" } : MethodName) prog_14_method_58_code (1 : Nat) (Option.some FieldType.boolean)) ∈ zT := zT_of7 231 rfl rfl
theorem zw_1672 : (Cond.methodLink "ChequeredClothModel" (380 : Nat) ({ cls := "ChequeredClothModel", name := "hasSquare", desc := "()Z" } : MethodName)) ∈ zT := zT_of7 232 rfl rfl
theorem zw_1674 : (Cond.instanceMethod ({ cls := "ChequeredClothModel", name := "hasSquare", desc := "()Z" } : MethodName)) ∈ zT := zT_of7 234 rfl rfl
theorem zw_1675 : (Cond.code ({ cls := "ChequeredClothModel", name := "hasSquare", desc := "()Z" } : MethodName) prog_14_method_55_code (2 : Nat) (Option.some FieldType.boolean)) ∈ zT := zT_of7 235 rfl rfl
theorem zw_1676 : (Cond.methodLink "ChequeredClothModel" (438 : Nat) ({ cls := "ChequeredClothModel", name := "act", desc := "(IIII)I" } : MethodName)) ∈ zT := zT_of7 236 rfl rfl
theorem zw_1678 : (Cond.instanceMethod ({ cls := "ChequeredClothModel", name := "act", desc := "(IIII)I" } : MethodName)) ∈ zT := zT_of7 238 rfl rfl
theorem zw_1679 : (Cond.code ({ cls := "ChequeredClothModel", name := "act", desc := "(IIII)I" } : MethodName) prog_14_method_69_code (5 : Nat) (Option.some FieldType.int)) ∈ zT := zT_of7 239 rfl rfl
theorem zw_1680 : (Cond.methodLink "ChequeredClothModel" (442 : Nat) ({ cls := "ChequeredClothModel", name := "copies", desc := "(I)V" } : MethodName)) ∈ zT := zT_of8 0 rfl rfl
theorem zw_1682 : (Cond.instanceMethod ({ cls := "ChequeredClothModel", name := "copies", desc := "(I)V" } : MethodName)) ∈ zT := zT_of8 2 rfl rfl
theorem zw_1683 : (Cond.code ({ cls := "ChequeredClothModel", name := "copies", desc := "(I)V" } : MethodName) prog_14_method_61_code (5 : Nat) (Option.none : Option FieldType)) ∈ zT := zT_of8 3 rfl rfl
theorem zw_1684 : (Cond.methodLink "ChequeredClothLaw" (94 : Nat) ({ cls := "ChequeredClothModel", name := "fault", desc := "(I)I" } : MethodName)) ∈ zT := zT_of8 4 rfl rfl
theorem zw_1685 : (Cond.instanceMethod ({ cls := "ChequeredClothModel", name := "fault", desc := "(I)I" } : MethodName)) ∈ zT := zT_of8 5 rfl rfl
theorem zw_1686 : (Cond.selects "ChequeredClothModel" ({ cls := "ChequeredClothModel", name := "fault", desc := "(I)I" } : MethodName) ({ cls := "ChequeredClothModel", name := "fault", desc := "(I)I" } : MethodName)) ∈ zT := zT_of8 6 rfl rfl
theorem zw_1687 : (Cond.code ({ cls := "ChequeredClothModel", name := "fault", desc := "(I)I" } : MethodName) prog_14_method_71_code (2 : Nat) (Option.some FieldType.int)) ∈ zT := zT_of8 7 rfl rfl
theorem zw_1688 : (Cond.methodLink "ChequeredClothLaw" (103 : Nat) ({ cls := "ChequeredClothModel", name := "pays", desc := "(III)I" } : MethodName)) ∈ zT := zT_of8 8 rfl rfl
theorem zw_1689 : (Cond.instanceMethod ({ cls := "ChequeredClothModel", name := "pays", desc := "(III)I" } : MethodName)) ∈ zT := zT_of8 9 rfl rfl
theorem zw_1690 : (Cond.selects "ChequeredClothModel" ({ cls := "ChequeredClothModel", name := "pays", desc := "(III)I" } : MethodName) ({ cls := "ChequeredClothModel", name := "pays", desc := "(III)I" } : MethodName)) ∈ zT := zT_of8 10 rfl rfl
theorem zw_1691 : (Cond.code ({ cls := "ChequeredClothModel", name := "pays", desc := "(III)I" } : MethodName) prog_14_method_74_code (4 : Nat) (Option.some FieldType.int)) ∈ zT := zT_of8 11 rfl rfl
theorem zw_1692 : (Cond.methodLink "ChequeredClothModel" (451 : Nat) ({ cls := "ChequeredClothModel", name := "mayPay", desc := "(II)Z" } : MethodName)) ∈ zT := zT_of8 12 rfl rfl
theorem zw_1694 : (Cond.instanceMethod ({ cls := "ChequeredClothModel", name := "mayPay", desc := "(II)Z" } : MethodName)) ∈ zT := zT_of8 14 rfl rfl
theorem zw_1695 : (Cond.code ({ cls := "ChequeredClothModel", name := "mayPay", desc := "(II)Z" } : MethodName) prog_14_method_73_code (5 : Nat) (Option.some FieldType.boolean)) ∈ zT := zT_of8 15 rfl rfl
theorem zw_1696 : (Cond.methodLink "ChequeredClothModel" (445 : Nat) ({ cls := "ChequeredClothModel", name := "isPayment", desc := "(I)Z" } : MethodName)) ∈ zT := zT_of8 16 rfl rfl
theorem zw_1698 : (Cond.instanceMethod ({ cls := "ChequeredClothModel", name := "isPayment", desc := "(I)Z" } : MethodName)) ∈ zT := zT_of8 18 rfl rfl
theorem zw_1699 : (Cond.code ({ cls := "ChequeredClothModel", name := "isPayment", desc := "(I)Z" } : MethodName) prog_14_method_72_code (2 : Nat) (Option.some FieldType.boolean)) ∈ zT := zT_of8 19 rfl rfl
theorem zw_1700 : (Cond.methodLink "ChequeredClothModel" (448 : Nat) ({ cls := "ChequeredClothModel", name := "isShire", desc := "(I)Z" } : MethodName)) ∈ zT := zT_of8 20 rfl rfl
theorem zw_1701 : (Cond.static ({ cls := "ChequeredClothModel", name := "isShire", desc := "(I)Z" } : MethodName)) ∈ zT := zT_of8 21 rfl rfl
theorem zw_1702 : (Cond.code ({ cls := "ChequeredClothModel", name := "isShire", desc := "(I)Z" } : MethodName) prog_14_method_68_code (1 : Nat) (Option.some FieldType.boolean)) ∈ zT := zT_of8 22 rfl rfl
theorem zw_1703 : (Cond.constantLong "ChequeredClothModel" (427 : Nat) (7 : Int64)) ∈ zT := zT_of8 23 rfl rfl
theorem zw_1704 : (Cond.constantLong "ChequeredClothModel" (454 : Nat) (1000000 : Int64)) ∈ zT := zT_of8 24 rfl rfl
theorem zw_1705 : (Cond.methodLink "ChequeredClothLaw" (107 : Nat) ({ cls := "ChequeredClothModel", name := "tally", desc := "(III)I" } : MethodName)) ∈ zT := zT_of8 25 rfl rfl
theorem zw_1706 : (Cond.instanceMethod ({ cls := "ChequeredClothModel", name := "tally", desc := "(III)I" } : MethodName)) ∈ zT := zT_of8 26 rfl rfl
theorem zw_1707 : (Cond.selects "ChequeredClothModel" ({ cls := "ChequeredClothModel", name := "tally", desc := "(III)I" } : MethodName) ({ cls := "ChequeredClothModel", name := "tally", desc := "(III)I" } : MethodName)) ∈ zT := zT_of8 27 rfl rfl
theorem zw_1708 : (Cond.code ({ cls := "ChequeredClothModel", name := "tally", desc := "(III)I" } : MethodName) prog_14_method_75_code (4 : Nat) (Option.some FieldType.int)) ∈ zT := zT_of8 28 rfl rfl
theorem zw_1709 : (Cond.methodLink "ChequeredClothLaw" (111 : Nat) ({ cls := "ChequeredClothModel", name := "fire", desc := "(II)I" } : MethodName)) ∈ zT := zT_of8 29 rfl rfl
theorem zw_1710 : (Cond.instanceMethod ({ cls := "ChequeredClothModel", name := "fire", desc := "(II)I" } : MethodName)) ∈ zT := zT_of8 30 rfl rfl
theorem zw_1711 : (Cond.selects "ChequeredClothModel" ({ cls := "ChequeredClothModel", name := "fire", desc := "(II)I" } : MethodName) ({ cls := "ChequeredClothModel", name := "fire", desc := "(II)I" } : MethodName)) ∈ zT := zT_of8 31 rfl rfl
theorem zw_1712 : (Cond.code ({ cls := "ChequeredClothModel", name := "fire", desc := "(II)I" } : MethodName) prog_14_method_76_code (3 : Nat) (Option.some FieldType.int)) ∈ zT := zT_of8 32 rfl rfl
theorem zw_1713 : (Cond.constantLong "ChequeredClothModel" (456 : Nat) (120 : Int64)) ∈ zT := zT_of8 33 rfl rfl
theorem zw_1714 : (Cond.methodLink "ChequeredClothLaw" (115 : Nat) ({ cls := "ChequeredClothModel", name := "annul", desc := "(I)I" } : MethodName)) ∈ zT := zT_of8 34 rfl rfl
theorem zw_1715 : (Cond.instanceMethod ({ cls := "ChequeredClothModel", name := "annul", desc := "(I)I" } : MethodName)) ∈ zT := zT_of8 35 rfl rfl
theorem zw_1716 : (Cond.selects "ChequeredClothModel" ({ cls := "ChequeredClothModel", name := "annul", desc := "(I)I" } : MethodName) ({ cls := "ChequeredClothModel", name := "annul", desc := "(I)I" } : MethodName)) ∈ zT := zT_of8 36 rfl rfl
theorem zw_1717 : (Cond.code ({ cls := "ChequeredClothModel", name := "annul", desc := "(I)I" } : MethodName) prog_14_method_77_code (2 : Nat) (Option.some FieldType.int)) ∈ zT := zT_of8 37 rfl rfl
theorem zw_1718 : (Cond.methodLink "ChequeredClothLaw" (119 : Nat) ({ cls := "ChequeredClothModel", name := "as", desc := "(I)Z" } : MethodName)) ∈ zT := zT_of8 38 rfl rfl
theorem zw_1719 : (Cond.instanceMethod ({ cls := "ChequeredClothModel", name := "as", desc := "(I)Z" } : MethodName)) ∈ zT := zT_of8 39 rfl rfl
theorem zw_1720 : (Cond.selects "ChequeredClothModel" ({ cls := "ChequeredClothModel", name := "as", desc := "(I)Z" } : MethodName) ({ cls := "ChequeredClothModel", name := "as", desc := "(I)Z" } : MethodName)) ∈ zT := zT_of8 40 rfl rfl
theorem zw_1721 : (Cond.code ({ cls := "ChequeredClothModel", name := "as", desc := "(I)Z" } : MethodName) prog_14_method_78_code (2 : Nat) (Option.some FieldType.boolean)) ∈ zT := zT_of8 41 rfl rfl
theorem zw_1722 : (Cond.constantLong "ChequeredClothModel" (458 : Nat) (-1 : Int64)) ∈ zT := zT_of8 42 rfl rfl
theorem zw_1723 : (Cond.methodLink "ChequeredClothLaw" (98 : Nat) ({ cls := "ChequeredClothModel", name := "force", desc := "(I)I" } : MethodName)) ∈ zT := zT_of8 43 rfl rfl
theorem zw_1724 : (Cond.instanceMethod ({ cls := "ChequeredClothModel", name := "force", desc := "(I)I" } : MethodName)) ∈ zT := zT_of8 44 rfl rfl
theorem zw_1725 : (Cond.selects "ChequeredClothModel" ({ cls := "ChequeredClothModel", name := "force", desc := "(I)I" } : MethodName) ({ cls := "ChequeredClothModel", name := "force", desc := "(I)I" } : MethodName)) ∈ zT := zT_of8 45 rfl rfl
theorem zw_1726 : (Cond.code ({ cls := "ChequeredClothModel", name := "force", desc := "(I)I" } : MethodName) prog_14_method_83_code (3 : Nat) (Option.some FieldType.int)) ∈ zT := zT_of8 46 rfl rfl
theorem zw_1727 : (Cond.methodLink "ChequeredClothModel" (469 : Nat) ({ cls := "ChequeredClothModel", name := "asNow", desc := "()I" } : MethodName)) ∈ zT := zT_of8 47 rfl rfl
theorem zw_1729 : (Cond.instanceMethod ({ cls := "ChequeredClothModel", name := "asNow", desc := "()I" } : MethodName)) ∈ zT := zT_of8 49 rfl rfl
theorem zw_1730 : (Cond.code ({ cls := "ChequeredClothModel", name := "asNow", desc := "()I" } : MethodName) prog_14_method_79_code (1 : Nat) (Option.some FieldType.int)) ∈ zT := zT_of8 50 rfl rfl
theorem zw_1731 : (Cond.methodLink "ChequeredClothModel" (472 : Nat) ({ cls := "ChequeredClothModel", name := "tellsAsKnown", desc := "(I)V" } : MethodName)) ∈ zT := zT_of8 51 rfl rfl
theorem zw_1733 : (Cond.instanceMethod ({ cls := "ChequeredClothModel", name := "tellsAsKnown", desc := "(I)V" } : MethodName)) ∈ zT := zT_of8 53 rfl rfl
theorem zw_1734 : (Cond.code ({ cls := "ChequeredClothModel", name := "tellsAsKnown", desc := "(I)V" } : MethodName) prog_14_method_84_code (2 : Nat) (Option.none : Option FieldType)) ∈ zT := zT_of8 54 rfl rfl
theorem zw_1735 : (Cond.methodLink "ChequeredClothModel" (475 : Nat) ({ cls := "ChequeredClothModel", name := "writOf", desc := "(I)I" } : MethodName)) ∈ zT := zT_of8 55 rfl rfl
theorem zw_1737 : (Cond.instanceMethod ({ cls := "ChequeredClothModel", name := "writOf", desc := "(I)I" } : MethodName)) ∈ zT := zT_of8 57 rfl rfl
theorem zw_1738 : (Cond.code ({ cls := "ChequeredClothModel", name := "writOf", desc := "(I)I" } : MethodName) prog_14_method_81_code (4 : Nat) (Option.some FieldType.int)) ∈ zT := zT_of8 58 rfl rfl
theorem zw_1739 : (Cond.methodLink "ChequeredClothModel" (466 : Nat) ({ cls := "ChequeredClothModel", name := "isKnown", desc := "(I)Z" } : MethodName)) ∈ zT := zT_of8 59 rfl rfl
theorem zw_1741 : (Cond.instanceMethod ({ cls := "ChequeredClothModel", name := "isKnown", desc := "(I)Z" } : MethodName)) ∈ zT := zT_of8 61 rfl rfl
theorem zw_1742 : (Cond.code ({ cls := "ChequeredClothModel", name := "isKnown", desc := "(I)Z" } : MethodName) prog_14_method_80_code (2 : Nat) (Option.some FieldType.boolean)) ∈ zT := zT_of8 62 rfl rfl
theorem zw_1743 : (Cond.methodLink "ChequeredClothLaw" (124 : Nat) ({ cls := "ChequeredClothModel", name := "roll", desc := "(III)J" } : MethodName)) ∈ zT := zT_of8 63 rfl rfl
theorem zw_1744 : (Cond.instanceMethod ({ cls := "ChequeredClothModel", name := "roll", desc := "(III)J" } : MethodName)) ∈ zT := zT_of8 64 rfl rfl
theorem zw_1745 : (Cond.selects "ChequeredClothModel" ({ cls := "ChequeredClothModel", name := "roll", desc := "(III)J" } : MethodName) ({ cls := "ChequeredClothModel", name := "roll", desc := "(III)J" } : MethodName)) ∈ zT := zT_of8 65 rfl rfl
theorem zw_1746 : (Cond.code ({ cls := "ChequeredClothModel", name := "roll", desc := "(III)J" } : MethodName) prog_14_method_91_code (6 : Nat) (Option.some FieldType.long)) ∈ zT := zT_of8 66 rfl rfl
theorem zw_1747 : (Cond.constantLong "ChequeredClothModel" (520 : Nat) (6 : Int64)) ∈ zT := zT_of8 67 rfl rfl
theorem zw_1748 : (Cond.constantLong "ChequeredClothModel" (522 : Nat) (-2000000000000 : Int64)) ∈ zT := zT_of8 68 rfl rfl
theorem zw_1749 : (Cond.methodLink "ChequeredClothModel" (524 : Nat) ({ cls := "ChequeredClothModel", name := "rolls", desc := "(II)J" } : MethodName)) ∈ zT := zT_of8 69 rfl rfl
theorem zw_1751 : (Cond.instanceMethod ({ cls := "ChequeredClothModel", name := "rolls", desc := "(II)J" } : MethodName)) ∈ zT := zT_of8 71 rfl rfl
theorem zw_1752 : (Cond.code ({ cls := "ChequeredClothModel", name := "rolls", desc := "(II)J" } : MethodName) prog_14_method_89_code (6 : Nat) (Option.some FieldType.long)) ∈ zT := zT_of8 72 rfl rfl
theorem zw_1753 : (Cond.methodLink "ChequeredClothModel" (511 : Nat) ({ cls := "ChequeredClothModel", name := "does", desc := "(II)V" } : MethodName)) ∈ zT := zT_of8 73 rfl rfl
theorem zw_1755 : (Cond.instanceMethod ({ cls := "ChequeredClothModel", name := "does", desc := "(II)V" } : MethodName)) ∈ zT := zT_of8 75 rfl rfl
theorem zw_1756 : (Cond.code ({ cls := "ChequeredClothModel", name := "does", desc := "(II)V" } : MethodName) prog_14_method_87_code (8 : Nat) (Option.none : Option FieldType)) ∈ zT := zT_of8 76 rfl rfl
theorem zw_1757 : (Cond.methodLink "ChequeredClothModel" (485 : Nat) ({ cls := "ChequeredClothModel", name := "holds", desc := "(II)Z" } : MethodName)) ∈ zT := zT_of8 77 rfl rfl
theorem zw_1759 : (Cond.instanceMethod ({ cls := "ChequeredClothModel", name := "holds", desc := "(II)Z" } : MethodName)) ∈ zT := zT_of8 79 rfl rfl
theorem zw_1760 : (Cond.code ({ cls := "ChequeredClothModel", name := "holds", desc := "(II)Z" } : MethodName) prog_14_method_85_code (3 : Nat) (Option.some FieldType.boolean)) ∈ zT := zT_of8 80 rfl rfl
theorem zw_1761 : (Cond.methodLink "ChequeredClothModel" (481 : Nat) ({ cls := "ChequeredClothModel", name := "tells", desc := "(III)J" } : MethodName)) ∈ zT := zT_of8 81 rfl rfl
theorem zw_1763 : (Cond.instanceMethod ({ cls := "ChequeredClothModel", name := "tells", desc := "(III)J" } : MethodName)) ∈ zT := zT_of8 83 rfl rfl
theorem zw_1764 : (Cond.code ({ cls := "ChequeredClothModel", name := "tells", desc := "(III)J" } : MethodName) prog_14_method_66_code (6 : Nat) (Option.some FieldType.long)) ∈ zT := zT_of8 84 rfl rfl
theorem zw_1765 : (Cond.methodLink "ChequeredClothModel" (401 : Nat) ({ cls := "ChequeredClothModel", name := "puts", desc := "(J)V" } : MethodName)) ∈ zT := zT_of8 85 rfl rfl
theorem zw_1767 : (Cond.instanceMethod ({ cls := "ChequeredClothModel", name := "puts", desc := "(J)V" } : MethodName)) ∈ zT := zT_of8 87 rfl rfl
theorem zw_1768 : (Cond.code ({ cls := "ChequeredClothModel", name := "puts", desc := "(J)V" } : MethodName) prog_14_method_64_code (3 : Nat) (Option.none : Option FieldType)) ∈ zT := zT_of8 88 rfl rfl
theorem zw_1769 : (Cond.methodLink "ChequeredClothModel" (397 : Nat) ({ cls := "ChequeredClothModel", name := "clip", desc := "(J)J" } : MethodName)) ∈ zT := zT_of8 89 rfl rfl
theorem zw_1770 : (Cond.static ({ cls := "ChequeredClothModel", name := "clip", desc := "(J)J" } : MethodName)) ∈ zT := zT_of8 90 rfl rfl
theorem zw_1771 : (Cond.code ({ cls := "ChequeredClothModel", name := "clip", desc := "(J)J" } : MethodName) prog_14_method_62_code (2 : Nat) (Option.some FieldType.long)) ∈ zT := zT_of8 91 rfl rfl
theorem zw_1772 : (Cond.constantLong "ChequeredClothModel" (392 : Nat) (-1000000000 : Int64)) ∈ zT := zT_of8 92 rfl rfl
theorem zw_1773 : (Cond.methodLink "ChequeredClothModel" (422 : Nat) ({ cls := "ChequeredClothModel", name := "joins", desc := "(I)V" } : MethodName)) ∈ zT := zT_of8 93 rfl rfl
theorem zw_1775 : (Cond.instanceMethod ({ cls := "ChequeredClothModel", name := "joins", desc := "(I)V" } : MethodName)) ∈ zT := zT_of8 95 rfl rfl
theorem zw_1776 : (Cond.code ({ cls := "ChequeredClothModel", name := "joins", desc := "(I)V" } : MethodName) prog_14_method_65_code (6 : Nat) (Option.none : Option FieldType)) ∈ zT := zT_of8 96 rfl rfl
theorem zw_1777 : (Cond.methodLink "ChequeredClothModel" (405 : Nat) ({ cls := "ChequeredClothModel", name := "floor", desc := "(JJ)J" } : MethodName)) ∈ zT := zT_of8 97 rfl rfl
theorem zw_1778 : (Cond.static ({ cls := "ChequeredClothModel", name := "floor", desc := "(JJ)J" } : MethodName)) ∈ zT := zT_of8 98 rfl rfl
theorem zw_1779 : (Cond.code ({ cls := "ChequeredClothModel", name := "floor", desc := "(JJ)J" } : MethodName) prog_14_method_63_code (6 : Nat) (Option.some FieldType.long)) ∈ zT := zT_of8 99 rfl rfl
theorem zw_1780 : (Cond.methodLink "ChequeredClothModel" (488 : Nat) ({ cls := "ChequeredClothModel", name := "amount", desc := "(II)J" } : MethodName)) ∈ zT := zT_of8 100 rfl rfl
theorem zw_1782 : (Cond.instanceMethod ({ cls := "ChequeredClothModel", name := "amount", desc := "(II)J" } : MethodName)) ∈ zT := zT_of8 102 rfl rfl
theorem zw_1783 : (Cond.code ({ cls := "ChequeredClothModel", name := "amount", desc := "(II)J" } : MethodName) prog_14_method_86_code (5 : Nat) (Option.some FieldType.long)) ∈ zT := zT_of8 103 rfl rfl
theorem zw_1784 : (Cond.methodLink "ChequeredClothModel" (514 : Nat) ({ cls := "ChequeredClothModel", name := "takesPayments", desc := "()V" } : MethodName)) ∈ zT := zT_of8 104 rfl rfl
theorem zw_1786 : (Cond.instanceMethod ({ cls := "ChequeredClothModel", name := "takesPayments", desc := "()V" } : MethodName)) ∈ zT := zT_of8 106 rfl rfl
theorem zw_1787 : (Cond.code ({ cls := "ChequeredClothModel", name := "takesPayments", desc := "()V" } : MethodName) prog_14_method_88_code (4 : Nat) (Option.none : Option FieldType)) ∈ zT := zT_of8 107 rfl rfl
theorem zw_1788 : (Cond.methodLink "ChequeredClothModel" (508 : Nat) ({ cls := "ChequeredClothModel", name := "fireOf", desc := "(I)I" } : MethodName)) ∈ zT := zT_of8 108 rfl rfl
theorem zw_1790 : (Cond.instanceMethod ({ cls := "ChequeredClothModel", name := "fireOf", desc := "(I)I" } : MethodName)) ∈ zT := zT_of8 110 rfl rfl
theorem zw_1791 : (Cond.code ({ cls := "ChequeredClothModel", name := "fireOf", desc := "(I)I" } : MethodName) prog_14_method_82_code (4 : Nat) (Option.some FieldType.int)) ∈ zT := zT_of8 111 rfl rfl
theorem zw_1792 : (Cond.methodLink "ChequeredClothModel" (527 : Nat) ({ cls := "ChequeredClothModel", name := "putOff", desc := "(I)J" } : MethodName)) ∈ zT := zT_of8 112 rfl rfl
theorem zw_1794 : (Cond.instanceMethod ({ cls := "ChequeredClothModel", name := "putOff", desc := "(I)J" } : MethodName)) ∈ zT := zT_of8 114 rfl rfl
theorem zw_1795 : (Cond.code ({ cls := "ChequeredClothModel", name := "putOff", desc := "(I)J" } : MethodName) prog_14_method_90_code (5 : Nat) (Option.some FieldType.long)) ∈ zT := zT_of8 115 rfl rfl
theorem zw_1796 : (Cond.methodLink "ChequeredClothLaw" (129 : Nat) ({ cls := "ChequeredClothModel", name := "owed", desc := "(I)J" } : MethodName)) ∈ zT := zT_of8 116 rfl rfl
theorem zw_1797 : (Cond.instanceMethod ({ cls := "ChequeredClothModel", name := "owed", desc := "(I)J" } : MethodName)) ∈ zT := zT_of8 117 rfl rfl
theorem zw_1798 : (Cond.selects "ChequeredClothModel" ({ cls := "ChequeredClothModel", name := "owed", desc := "(I)J" } : MethodName) ({ cls := "ChequeredClothModel", name := "owed", desc := "(I)J" } : MethodName)) ∈ zT := zT_of8 118 rfl rfl
theorem zw_1799 : (Cond.code ({ cls := "ChequeredClothModel", name := "owed", desc := "(I)J" } : MethodName) prog_14_method_92_code (7 : Nat) (Option.some FieldType.long)) ∈ zT := zT_of8 119 rfl rfl
theorem zw_1800 : (Cond.methodLink "ChequeredClothLaw" (136 : Nat) ({ cls := "ChequeredClothModel", name := "slip", desc := "(IIJ)I" } : MethodName)) ∈ zT := zT_of8 120 rfl rfl
theorem zw_1801 : (Cond.instanceMethod ({ cls := "ChequeredClothModel", name := "slip", desc := "(IIJ)I" } : MethodName)) ∈ zT := zT_of8 121 rfl rfl
theorem zw_1802 : (Cond.selects "ChequeredClothModel" ({ cls := "ChequeredClothModel", name := "slip", desc := "(IIJ)I" } : MethodName) ({ cls := "ChequeredClothModel", name := "slip", desc := "(IIJ)I" } : MethodName)) ∈ zT := zT_of8 122 rfl rfl
theorem zw_1803 : (Cond.code ({ cls := "ChequeredClothModel", name := "slip", desc := "(IIJ)I" } : MethodName) prog_14_method_93_code (7 : Nat) (Option.some FieldType.int)) ∈ zT := zT_of8 123 rfl rfl
theorem zw_1804 : (Cond.methodLink "ChequeredClothLaw" (141 : Nat) ({ cls := "ChequeredClothModel", name := "moved", desc := "()I" } : MethodName)) ∈ zT := zT_of8 124 rfl rfl
theorem zw_1805 : (Cond.instanceMethod ({ cls := "ChequeredClothModel", name := "moved", desc := "()I" } : MethodName)) ∈ zT := zT_of8 125 rfl rfl
theorem zw_1806 : (Cond.selects "ChequeredClothModel" ({ cls := "ChequeredClothModel", name := "moved", desc := "()I" } : MethodName) ({ cls := "ChequeredClothModel", name := "moved", desc := "()I" } : MethodName)) ∈ zT := zT_of8 126 rfl rfl
theorem zw_1807 : (Cond.code ({ cls := "ChequeredClothModel", name := "moved", desc := "()I" } : MethodName) prog_14_method_94_code (1 : Nat) (Option.some FieldType.int)) ∈ zT := zT_of8 127 rfl rfl
theorem zw_1808 : (Cond.methodLink "ChequeredClothLaw" (145 : Nat) ({ cls := "ChequeredClothModel", name := "since", desc := "(II)I" } : MethodName)) ∈ zT := zT_of8 128 rfl rfl
theorem zw_1809 : (Cond.instanceMethod ({ cls := "ChequeredClothModel", name := "since", desc := "(II)I" } : MethodName)) ∈ zT := zT_of8 129 rfl rfl
theorem zw_1810 : (Cond.selects "ChequeredClothModel" ({ cls := "ChequeredClothModel", name := "since", desc := "(II)I" } : MethodName) ({ cls := "ChequeredClothModel", name := "since", desc := "(II)I" } : MethodName)) ∈ zT := zT_of8 130 rfl rfl
theorem zw_1811 : (Cond.code ({ cls := "ChequeredClothModel", name := "since", desc := "(II)I" } : MethodName) prog_14_method_95_code (7 : Nat) (Option.some FieldType.int)) ∈ zT := zT_of8 131 rfl rfl
theorem zw_1812 : (Cond.methodLink "ChequeredClothLaw" (149 : Nat) ({ cls := "ChequeredClothModel", name := "all", desc := "(I)I" } : MethodName)) ∈ zT := zT_of8 132 rfl rfl
theorem zw_1813 : (Cond.instanceMethod ({ cls := "ChequeredClothModel", name := "all", desc := "(I)I" } : MethodName)) ∈ zT := zT_of8 133 rfl rfl
theorem zw_1814 : (Cond.selects "ChequeredClothModel" ({ cls := "ChequeredClothModel", name := "all", desc := "(I)I" } : MethodName) ({ cls := "ChequeredClothModel", name := "all", desc := "(I)I" } : MethodName)) ∈ zT := zT_of8 134 rfl rfl
theorem zw_1815 : (Cond.code ({ cls := "ChequeredClothModel", name := "all", desc := "(I)I" } : MethodName) prog_14_method_96_code (4 : Nat) (Option.some FieldType.int)) ∈ zT := zT_of8 135 rfl rfl
theorem zw_1816 : (Cond.constantLong "ChequeredClothLaw" (130 : Nat) (4294967295 : Int64)) ∈ zT := zT_of8 136 rfl rfl
theorem zw_1817 : (Cond.fieldLink "java/lang/String" (9 : Nat) "java/lang/String" "value" "[B") ∈ zT := zT_of8 137 rfl rfl
theorem zw_1818 : (Cond.fieldLink "java/lang/String" (15 : Nat) "java/lang/String" "coder" "B") ∈ zT := zT_of8 138 rfl rfl
theorem zws_0 : Cond.selects "ChequeredCloth$Counters" ({ cls := "ChequeredCloth$Counters", name := "tellPlain", desc := "(I)Z" } : MethodName) ({ cls := "ChequeredCloth$Counters", name := "tellPlain", desc := "(I)Z" } : MethodName) ∈ zT := zT_sel 0 rfl rfl
theorem zws_1 : Cond.selects "ChequeredCloth$Counters" ({ cls := "ChequeredCloth$Counters", name := "changeUpward", desc := "()I" } : MethodName) ({ cls := "ChequeredCloth$Counters", name := "changeUpward", desc := "()I" } : MethodName) ∈ zT := zT_sel 1 rfl rfl
theorem zws_2 : Cond.selects "ChequeredCloth$Counters" ({ cls := "ChequeredCloth$Counters", name := "breakInto", desc := "(I)I" } : MethodName) ({ cls := "ChequeredCloth$Counters", name := "breakInto", desc := "(I)I" } : MethodName) ∈ zT := zT_sel 2 rfl rfl
theorem zws_3 : Cond.selects "ChequeredCloth$Chest" ({ cls := "ChequeredCloth$Chest", name := "forget", desc := "(I)V" } : MethodName) ({ cls := "ChequeredCloth$Chest", name := "forget", desc := "(I)V" } : MethodName) ∈ zT := zT_sel 3 rfl rfl
theorem zws_4 : Cond.selects "ChequeredCloth$Chest" ({ cls := "ChequeredCloth$Chest", name := "isThere", desc := "(I)Z" } : MethodName) ({ cls := "ChequeredCloth$Chest", name := "isThere", desc := "(I)Z" } : MethodName) ∈ zT := zT_sel 4 rfl rfl
theorem zws_5 : Cond.selects "ChequeredCloth$Chest" ({ cls := "ChequeredCloth$Chest", name := "leastCost", desc := "(II)I" } : MethodName) ({ cls := "ChequeredCloth$Chest", name := "leastCost", desc := "(II)I" } : MethodName) ∈ zT := zT_sel 5 rfl rfl
theorem zws_6 : Cond.selects "ChequeredCloth$Chest" ({ cls := "ChequeredCloth$Chest", name := "pairCost", desc := "(II)I" } : MethodName) ({ cls := "ChequeredCloth$Chest", name := "pairCost", desc := "(II)I" } : MethodName) ∈ zT := zT_sel 6 rfl rfl
theorem zws_7 : Cond.selects "ChequeredCloth$Matcher" ({ cls := "ChequeredCloth$Matcher", name := "freeColumnFor", desc := "(I)I" } : MethodName) ({ cls := "ChequeredCloth$Matcher", name := "freeColumnFor", desc := "(I)I" } : MethodName) ∈ zT := zT_sel 7 rfl rfl
theorem zws_8 : Cond.selects "ChequeredCloth$Matcher" ({ cls := "ChequeredCloth$Matcher", name := "lookFrom", desc := "(I)I" } : MethodName) ({ cls := "ChequeredCloth$Matcher", name := "lookFrom", desc := "(I)I" } : MethodName) ∈ zT := zT_sel 8 rfl rfl
theorem zws_9 : Cond.selects "ChequeredCloth$Matcher" ({ cls := "ChequeredCloth$Matcher", name := "shiftPrices", desc := "(J)V" } : MethodName) ({ cls := "ChequeredCloth$Matcher", name := "shiftPrices", desc := "(J)V" } : MethodName) ∈ zT := zT_sel 9 rfl rfl
theorem zws_10 : Cond.selects "ChequeredCloth$Matcher" ({ cls := "ChequeredCloth$Matcher", name := "turnOver", desc := "(I)V" } : MethodName) ({ cls := "ChequeredCloth$Matcher", name := "turnOver", desc := "(I)V" } : MethodName) ∈ zT := zT_sel 10 rfl rfl
theorem zws_11 : Cond.selects "ChequeredCloth$Reader" ({ cls := "ChequeredCloth$Reader", name := "next", desc := "()V" } : MethodName) ({ cls := "ChequeredCloth$Reader", name := "next", desc := "()V" } : MethodName) ∈ zT := zT_sel 11 rfl rfl
theorem zws_12 : Cond.selects "ChequeredCloth$Reader" ({ cls := "ChequeredCloth$Reader", name := "readStatement", desc := "()Z" } : MethodName) ({ cls := "ChequeredCloth$Reader", name := "readStatement", desc := "()Z" } : MethodName) ∈ zT := zT_sel 12 rfl rfl
theorem zws_13 : Cond.selects "ChequeredCloth$Reader" ({ cls := "ChequeredCloth$Reader", name := "readDuty", desc := "(LChequeredCloth$Statement;)Z" } : MethodName) ({ cls := "ChequeredCloth$Reader", name := "readDuty", desc := "(LChequeredCloth$Statement;)Z" } : MethodName) ∈ zT := zT_sel 13 rfl rfl
theorem zws_14 : Cond.selects "ChequeredCloth$Reader" ({ cls := "ChequeredCloth$Reader", name := "takeWord", desc := "(Ljava/lang/String;)Z" } : MethodName) ({ cls := "ChequeredCloth$Reader", name := "takeWord", desc := "(Ljava/lang/String;)Z" } : MethodName) ∈ zT := zT_sel 14 rfl rfl
theorem zws_15 : Cond.selects "ChequeredCloth$Reader" ({ cls := "ChequeredCloth$Reader", name := "readSum", desc := "()Z" } : MethodName) ({ cls := "ChequeredCloth$Reader", name := "readSum", desc := "()Z" } : MethodName) ∈ zT := zT_sel 15 rfl rfl
theorem zws_16 : Cond.selects "ChequeredCloth$Reader" ({ cls := "ChequeredCloth$Reader", name := "readProduct", desc := "()Z" } : MethodName) ({ cls := "ChequeredCloth$Reader", name := "readProduct", desc := "()Z" } : MethodName) ∈ zT := zT_sel 16 rfl rfl
theorem zws_17 : Cond.selects "ChequeredCloth$Reader" ({ cls := "ChequeredCloth$Reader", name := "readPart", desc := "()Z" } : MethodName) ({ cls := "ChequeredCloth$Reader", name := "readPart", desc := "()Z" } : MethodName) ∈ zT := zT_sel 17 rfl rfl
theorem zws_18 : Cond.selects "ChequeredCloth$Reader" ({ cls := "ChequeredCloth$Reader", name := "readNumber", desc := "(II)I" } : MethodName) ({ cls := "ChequeredCloth$Reader", name := "readNumber", desc := "(II)I" } : MethodName) ∈ zT := zT_sel 18 rfl rfl
theorem zws_19 : Cond.selects "ChequeredCloth$Reader" ({ cls := "ChequeredCloth$Reader", name := "fail", desc := "(II)Z" } : MethodName) ({ cls := "ChequeredCloth$Reader", name := "fail", desc := "(II)Z" } : MethodName) ∈ zT := zT_sel 19 rfl rfl
theorem zws_20 : Cond.selects "ChequeredCloth$Reader" ({ cls := "ChequeredCloth$Reader", name := "takeUnit", desc := "()I" } : MethodName) ({ cls := "ChequeredCloth$Reader", name := "takeUnit", desc := "()I" } : MethodName) ∈ zT := zT_sel 20 rfl rfl
theorem zws_21 : Cond.selects "ChequeredCloth$Reader" ({ cls := "ChequeredCloth$Reader", name := "emit", desc := "(I)Z" } : MethodName) ({ cls := "ChequeredCloth$Reader", name := "emit", desc := "(I)Z" } : MethodName) ∈ zT := zT_sel 21 rfl rfl
theorem zws_22 : Cond.selects "ChequeredCloth$Reader" ({ cls := "ChequeredCloth$Reader", name := "takeMark", desc := "(C)Z" } : MethodName) ({ cls := "ChequeredCloth$Reader", name := "takeMark", desc := "(C)Z" } : MethodName) ∈ zT := zT_sel 22 rfl rfl
theorem zws_23 : Cond.selects "ChequeredCloth$Reader" ({ cls := "ChequeredCloth$Reader", name := "opens", desc := "(I)Z" } : MethodName) ({ cls := "ChequeredCloth$Reader", name := "opens", desc := "(I)Z" } : MethodName) ∈ zT := zT_sel 23 rfl rfl
theorem zws_24 : Cond.selects "ChequeredCloth$Reader" ({ cls := "ChequeredCloth$Reader", name := "needMark", desc := "(C)Z" } : MethodName) ({ cls := "ChequeredCloth$Reader", name := "needMark", desc := "(C)Z" } : MethodName) ∈ zT := zT_sel 24 rfl rfl
theorem zws_25 : Cond.selects "ChequeredCloth$Reader" ({ cls := "ChequeredCloth$Reader", name := "closes", desc := "()Z" } : MethodName) ({ cls := "ChequeredCloth$Reader", name := "closes", desc := "()Z" } : MethodName) ∈ zT := zT_sel 25 rfl rfl
theorem zws_26 : Cond.selects "ChequeredCloth$Reader" ({ cls := "ChequeredCloth$Reader", name := "readTwo", desc := "()Z" } : MethodName) ({ cls := "ChequeredCloth$Reader", name := "readTwo", desc := "()Z" } : MethodName) ∈ zT := zT_sel 26 rfl rfl
theorem zws_27 : Cond.selects "ChequeredCloth$Reader" ({ cls := "ChequeredCloth$Reader", name := "needWord", desc := "(Ljava/lang/String;)Z" } : MethodName) ({ cls := "ChequeredCloth$Reader", name := "needWord", desc := "(Ljava/lang/String;)Z" } : MethodName) ∈ zT := zT_sel 27 rfl rfl
theorem zws_28 : Cond.selects "ChequeredCloth$Reader" ({ cls := "ChequeredCloth$Reader", name := "readTest", desc := "()Z" } : MethodName) ({ cls := "ChequeredCloth$Reader", name := "readTest", desc := "()Z" } : MethodName) ∈ zT := zT_sel 28 rfl rfl
theorem zws_29 : Cond.selects "ChequeredCloth$Reader" ({ cls := "ChequeredCloth$Reader", name := "readBoth", desc := "()Z" } : MethodName) ({ cls := "ChequeredCloth$Reader", name := "readBoth", desc := "()Z" } : MethodName) ∈ zT := zT_sel 29 rfl rfl
theorem zws_30 : Cond.selects "ChequeredCloth$Reader" ({ cls := "ChequeredCloth$Reader", name := "readFact", desc := "()Z" } : MethodName) ({ cls := "ChequeredCloth$Reader", name := "readFact", desc := "()Z" } : MethodName) ∈ zT := zT_sel 30 rfl rfl
theorem zws_31 : Cond.selects "ChequeredCloth" ({ cls := "ChequeredCloth", name := "presentAct", desc := "()I" } : MethodName) ({ cls := "ChequeredCloth", name := "presentAct", desc := "()I" } : MethodName) ∈ zT := zT_sel 31 rfl rfl
theorem zws_32 : Cond.selects "ChequeredCloth$Audit" ({ cls := "ChequeredCloth$Audit", name := "knowAt", desc := "(I)V" } : MethodName) ({ cls := "ChequeredCloth$Audit", name := "knowAt", desc := "(I)V" } : MethodName) ∈ zT := zT_sel 32 rfl rfl
theorem zws_33 : Cond.selects "ChequeredCloth$Known" ({ cls := "ChequeredCloth$Known", name := "note", desc := "(II)V" } : MethodName) ({ cls := "ChequeredCloth$Known", name := "note", desc := "(II)V" } : MethodName) ∈ zT := zT_sel 33 rfl rfl
theorem zws_34 : Cond.selects "ChequeredCloth$Roll" ({ cls := "ChequeredCloth$Roll", name := "comeDue", desc := "(I)V" } : MethodName) ({ cls := "ChequeredCloth$Roll", name := "comeDue", desc := "(I)V" } : MethodName) ∈ zT := zT_sel 34 rfl rfl
theorem zws_35 : Cond.selects "ChequeredCloth$Roll" ({ cls := "ChequeredCloth$Roll", name := "reckon", desc := "(LChequeredCloth$Writ;II)J" } : MethodName) ({ cls := "ChequeredCloth$Roll", name := "reckon", desc := "(LChequeredCloth$Writ;II)J" } : MethodName) ∈ zT := zT_sel 35 rfl rfl
theorem zws_36 : Cond.selects "ChequeredCloth$Judge" ({ cls := "ChequeredCloth$Judge", name := "present", desc := "(I)J" } : MethodName) ({ cls := "ChequeredCloth$Judge", name := "present", desc := "(I)J" } : MethodName) ∈ zT := zT_sel 36 rfl rfl
theorem zws_37 : Cond.selects "ChequeredCloth$Roll" ({ cls := "ChequeredCloth$Roll", name := "pardoned", desc := "(LChequeredCloth$Statement;)J" } : MethodName) ({ cls := "ChequeredCloth$Roll", name := "pardoned", desc := "(LChequeredCloth$Statement;)J" } : MethodName) ∈ zT := zT_sel 37 rfl rfl
theorem zws_38 : Cond.selects "ChequeredCloth$Roll" ({ cls := "ChequeredCloth$Roll", name := "takeIn", desc := "(I)V" } : MethodName) ({ cls := "ChequeredCloth$Roll", name := "takeIn", desc := "(I)V" } : MethodName) ∈ zT := zT_sel 38 rfl rfl
theorem zws_39 : Cond.selects "ChequeredCloth$Roll" ({ cls := "ChequeredCloth$Roll", name := "worthOf", desc := "(II)J" } : MethodName) ({ cls := "ChequeredCloth$Roll", name := "worthOf", desc := "(II)J" } : MethodName) ∈ zT := zT_sel 39 rfl rfl
theorem zws_40 : Cond.selects "ChequeredCloth$Roll" ({ cls := "ChequeredCloth$Roll", name := "splitDebt", desc := "(LChequeredCloth$Writ;I)V" } : MethodName) ({ cls := "ChequeredCloth$Roll", name := "splitDebt", desc := "(LChequeredCloth$Writ;I)V" } : MethodName) ∈ zT := zT_sel 40 rfl rfl
theorem zws_41 : Cond.selects "ChequeredCloth$Roll" ({ cls := "ChequeredCloth$Roll", name := "putOffAfter", desc := "(I)J" } : MethodName) ({ cls := "ChequeredCloth$Roll", name := "putOffAfter", desc := "(I)J" } : MethodName) ∈ zT := zT_sel 41 rfl rfl
theorem zws_42 : Cond.selects "ChequeredCloth$Audit" ({ cls := "ChequeredCloth$Audit", name := "tellsOtherwise", desc := "(LChequeredCloth$Roll;IIJ)Z" } : MethodName) ({ cls := "ChequeredCloth$Audit", name := "tellsOtherwise", desc := "(LChequeredCloth$Roll;IIJ)Z" } : MethodName) ∈ zT := zT_sel 42 rfl rfl
theorem zws_43 : Cond.selects "ChequeredClothModel" ({ cls := "ChequeredClothModel", name := "value", desc := "(I)J" } : MethodName) ({ cls := "ChequeredClothModel", name := "value", desc := "(I)J" } : MethodName) ∈ zT := zT_sel 43 rfl rfl
theorem zws_44 : Cond.selects "ChequeredClothModel" ({ cls := "ChequeredClothModel", name := "plains", desc := "(I)V" } : MethodName) ({ cls := "ChequeredClothModel", name := "plains", desc := "(I)V" } : MethodName) ∈ zT := zT_sel 44 rfl rfl
theorem zws_45 : Cond.selects "ChequeredClothModel" ({ cls := "ChequeredClothModel", name := "works", desc := "()V" } : MethodName) ({ cls := "ChequeredClothModel", name := "works", desc := "()V" } : MethodName) ∈ zT := zT_sel 45 rfl rfl
theorem zws_46 : Cond.selects "ChequeredClothModel" ({ cls := "ChequeredClothModel", name := "stays", desc := "()V" } : MethodName) ({ cls := "ChequeredClothModel", name := "stays", desc := "()V" } : MethodName) ∈ zT := zT_sel 46 rfl rfl
theorem zws_47 : Cond.selects "ChequeredClothModel" ({ cls := "ChequeredClothModel", name := "above", desc := "(I)I" } : MethodName) ({ cls := "ChequeredClothModel", name := "above", desc := "(I)I" } : MethodName) ∈ zT := zT_sel 47 rfl rfl
theorem zws_48 : Cond.selects "ChequeredClothModel" ({ cls := "ChequeredClothModel", name := "isThere", desc := "(I)Z" } : MethodName) ({ cls := "ChequeredClothModel", name := "isThere", desc := "(I)Z" } : MethodName) ∈ zT := zT_sel 48 rfl rfl
theorem zws_49 : Cond.selects "ChequeredClothModel" ({ cls := "ChequeredClothModel", name := "sumOf", desc := "(I)I" } : MethodName) ({ cls := "ChequeredClothModel", name := "sumOf", desc := "(I)I" } : MethodName) ∈ zT := zT_sel 49 rfl rfl
theorem zws_50 : Cond.selects "ChequeredClothModel" ({ cls := "ChequeredClothModel", name := "fitOf", desc := "(II)I" } : MethodName) ({ cls := "ChequeredClothModel", name := "fitOf", desc := "(II)I" } : MethodName) ∈ zT := zT_sel 50 rfl rfl
theorem zws_51 : Cond.selects "ChequeredClothModel" ({ cls := "ChequeredClothModel", name := "pairs", desc := "(II)Z" } : MethodName) ({ cls := "ChequeredClothModel", name := "pairs", desc := "(II)Z" } : MethodName) ∈ zT := zT_sel 51 rfl rfl
theorem zws_52 : Cond.selects "ChequeredClothModel" ({ cls := "ChequeredClothModel", name := "matches", desc := "()V" } : MethodName) ({ cls := "ChequeredClothModel", name := "matches", desc := "()V" } : MethodName) ∈ zT := zT_sel 52 rfl rfl
theorem zws_53 : Cond.selects "ChequeredClothModel" ({ cls := "ChequeredClothModel", name := "canPair", desc := "(III)Z" } : MethodName) ({ cls := "ChequeredClothModel", name := "canPair", desc := "(III)Z" } : MethodName) ∈ zT := zT_sel 53 rfl rfl
theorem zws_54 : Cond.selects "ChequeredClothModel" ({ cls := "ChequeredClothModel", name := "paired", desc := "(III)I" } : MethodName) ({ cls := "ChequeredClothModel", name := "paired", desc := "(III)I" } : MethodName) ∈ zT := zT_sel 54 rfl rfl
theorem zws_55 : Cond.selects "ChequeredClothModel" ({ cls := "ChequeredClothModel", name := "reads", desc := "()Z" } : MethodName) ({ cls := "ChequeredClothModel", name := "reads", desc := "()Z" } : MethodName) ∈ zT := zT_sel 55 rfl rfl
theorem zws_56 : Cond.selects "ChequeredClothModel" ({ cls := "ChequeredClothModel", name := "look", desc := "()I" } : MethodName) ({ cls := "ChequeredClothModel", name := "look", desc := "()I" } : MethodName) ∈ zT := zT_sel 56 rfl rfl
theorem zws_57 : Cond.selects "ChequeredClothModel" ({ cls := "ChequeredClothModel", name := "statement", desc := "()V" } : MethodName) ({ cls := "ChequeredClothModel", name := "statement", desc := "()V" } : MethodName) ∈ zT := zT_sel 57 rfl rfl
theorem zws_58 : Cond.selects "ChequeredClothModel" ({ cls := "ChequeredClothModel", name := "fail", desc := "(II)V" } : MethodName) ({ cls := "ChequeredClothModel", name := "fail", desc := "(II)V" } : MethodName) ∈ zT := zT_sel 58 rfl rfl
theorem zws_59 : Cond.selects "ChequeredClothModel" ({ cls := "ChequeredClothModel", name := "takes", desc := "([C)Z" } : MethodName) ({ cls := "ChequeredClothModel", name := "takes", desc := "([C)Z" } : MethodName) ∈ zT := zT_sel 59 rfl rfl
theorem zws_60 : Cond.selects "ChequeredClothModel" ({ cls := "ChequeredClothModel", name := "isHere", desc := "([C)Z" } : MethodName) ({ cls := "ChequeredClothModel", name := "isHere", desc := "([C)Z" } : MethodName) ∈ zT := zT_sel 60 rfl rfl
theorem zws_61 : Cond.selects "ChequeredClothModel" ({ cls := "ChequeredClothModel", name := "sums", desc := "()V" } : MethodName) ({ cls := "ChequeredClothModel", name := "sums", desc := "()V" } : MethodName) ∈ zT := zT_sel 61 rfl rfl
theorem zws_62 : Cond.selects "ChequeredClothModel" ({ cls := "ChequeredClothModel", name := "part", desc := "()V" } : MethodName) ({ cls := "ChequeredClothModel", name := "part", desc := "()V" } : MethodName) ∈ zT := zT_sel 62 rfl rfl
theorem zws_63 : Cond.selects "ChequeredClothModel" ({ cls := "ChequeredClothModel", name := "opens", desc := "(II)V" } : MethodName) ({ cls := "ChequeredClothModel", name := "opens", desc := "(II)V" } : MethodName) ∈ zT := zT_sel 63 rfl rfl
theorem zws_64 : Cond.selects "ChequeredClothModel" ({ cls := "ChequeredClothModel", name := "asks", desc := "([C)V" } : MethodName) ({ cls := "ChequeredClothModel", name := "asks", desc := "([C)V" } : MethodName) ∈ zT := zT_sel 64 rfl rfl
theorem zws_65 : Cond.selects "ChequeredClothModel" ({ cls := "ChequeredClothModel", name := "asksSign", desc := "(I)V" } : MethodName) ({ cls := "ChequeredClothModel", name := "asksSign", desc := "(I)V" } : MethodName) ∈ zT := zT_sel 65 rfl rfl
theorem zws_66 : Cond.selects "ChequeredClothModel" ({ cls := "ChequeredClothModel", name := "takesSign", desc := "(I)Z" } : MethodName) ({ cls := "ChequeredClothModel", name := "takesSign", desc := "(I)Z" } : MethodName) ∈ zT := zT_sel 66 rfl rfl
theorem zws_67 : Cond.selects "ChequeredClothModel" ({ cls := "ChequeredClothModel", name := "code", desc := "(I)V" } : MethodName) ({ cls := "ChequeredClothModel", name := "code", desc := "(I)V" } : MethodName) ∈ zT := zT_sel 67 rfl rfl
theorem zws_68 : Cond.selects "ChequeredClothModel" ({ cls := "ChequeredClothModel", name := "numberPart", desc := "()V" } : MethodName) ({ cls := "ChequeredClothModel", name := "numberPart", desc := "()V" } : MethodName) ∈ zT := zT_sel 68 rfl rfl
theorem zws_69 : Cond.selects "ChequeredClothModel" ({ cls := "ChequeredClothModel", name := "number", desc := "(II)I" } : MethodName) ({ cls := "ChequeredClothModel", name := "number", desc := "(II)I" } : MethodName) ∈ zT := zT_sel 69 rfl rfl
theorem zws_70 : Cond.selects "ChequeredClothModel" ({ cls := "ChequeredClothModel", name := "goesOn", desc := "()Z" } : MethodName) ({ cls := "ChequeredClothModel", name := "goesOn", desc := "()Z" } : MethodName) ∈ zT := zT_sel 70 rfl rfl
theorem zws_71 : Cond.selects "ChequeredClothModel" ({ cls := "ChequeredClothModel", name := "mark", desc := "()I" } : MethodName) ({ cls := "ChequeredClothModel", name := "mark", desc := "()I" } : MethodName) ∈ zT := zT_sel 71 rfl rfl
theorem zws_72 : Cond.selects "ChequeredClothModel" ({ cls := "ChequeredClothModel", name := "isMark", desc := "(I)Z" } : MethodName) ({ cls := "ChequeredClothModel", name := "isMark", desc := "(I)Z" } : MethodName) ∈ zT := zT_sel 72 rfl rfl
theorem zws_73 : Cond.selects "ChequeredClothModel" ({ cls := "ChequeredClothModel", name := "dropsToMark", desc := "()V" } : MethodName) ({ cls := "ChequeredClothModel", name := "dropsToMark", desc := "()V" } : MethodName) ∈ zT := zT_sel 73 rfl rfl
theorem zws_74 : Cond.selects "ChequeredClothModel" ({ cls := "ChequeredClothModel", name := "drops", desc := "()V" } : MethodName) ({ cls := "ChequeredClothModel", name := "drops", desc := "()V" } : MethodName) ∈ zT := zT_sel 74 rfl rfl
theorem zws_75 : Cond.selects "ChequeredClothModel" ({ cls := "ChequeredClothModel", name := "isOn", desc := "(I)Z" } : MethodName) ({ cls := "ChequeredClothModel", name := "isOn", desc := "(I)Z" } : MethodName) ∈ zT := zT_sel 75 rfl rfl
theorem zws_76 : Cond.selects "ChequeredClothModel" ({ cls := "ChequeredClothModel", name := "test", desc := "()V" } : MethodName) ({ cls := "ChequeredClothModel", name := "test", desc := "()V" } : MethodName) ∈ zT := zT_sel 76 rfl rfl
theorem zws_77 : Cond.selects "ChequeredClothModel" ({ cls := "ChequeredClothModel", name := "fact", desc := "()V" } : MethodName) ({ cls := "ChequeredClothModel", name := "fact", desc := "()V" } : MethodName) ∈ zT := zT_sel 77 rfl rfl
theorem zws_78 : Cond.selects "ChequeredClothModel" ({ cls := "ChequeredClothModel", name := "dropsNots", desc := "()V" } : MethodName) ({ cls := "ChequeredClothModel", name := "dropsNots", desc := "()V" } : MethodName) ∈ zT := zT_sel 78 rfl rfl
theorem zws_79 : Cond.selects "ChequeredClothModel" ({ cls := "ChequeredClothModel", name := "goesOnTest", desc := "()Z" } : MethodName) ({ cls := "ChequeredClothModel", name := "goesOnTest", desc := "()Z" } : MethodName) ∈ zT := zT_sel 79 rfl rfl
theorem zws_80 : Cond.selects "ChequeredClothModel" ({ cls := "ChequeredClothModel", name := "hasSquare", desc := "()Z" } : MethodName) ({ cls := "ChequeredClothModel", name := "hasSquare", desc := "()Z" } : MethodName) ∈ zT := zT_sel 80 rfl rfl
theorem zws_81 : Cond.selects "ChequeredClothModel" ({ cls := "ChequeredClothModel", name := "act", desc := "(IIII)I" } : MethodName) ({ cls := "ChequeredClothModel", name := "act", desc := "(IIII)I" } : MethodName) ∈ zT := zT_sel 81 rfl rfl
theorem zws_82 : Cond.selects "ChequeredClothModel" ({ cls := "ChequeredClothModel", name := "copies", desc := "(I)V" } : MethodName) ({ cls := "ChequeredClothModel", name := "copies", desc := "(I)V" } : MethodName) ∈ zT := zT_sel 82 rfl rfl
theorem zws_83 : Cond.selects "ChequeredClothModel" ({ cls := "ChequeredClothModel", name := "mayPay", desc := "(II)Z" } : MethodName) ({ cls := "ChequeredClothModel", name := "mayPay", desc := "(II)Z" } : MethodName) ∈ zT := zT_sel 83 rfl rfl
theorem zws_84 : Cond.selects "ChequeredClothModel" ({ cls := "ChequeredClothModel", name := "isPayment", desc := "(I)Z" } : MethodName) ({ cls := "ChequeredClothModel", name := "isPayment", desc := "(I)Z" } : MethodName) ∈ zT := zT_sel 84 rfl rfl
theorem zws_85 : Cond.selects "ChequeredClothModel" ({ cls := "ChequeredClothModel", name := "asNow", desc := "()I" } : MethodName) ({ cls := "ChequeredClothModel", name := "asNow", desc := "()I" } : MethodName) ∈ zT := zT_sel 85 rfl rfl
theorem zws_86 : Cond.selects "ChequeredClothModel" ({ cls := "ChequeredClothModel", name := "tellsAsKnown", desc := "(I)V" } : MethodName) ({ cls := "ChequeredClothModel", name := "tellsAsKnown", desc := "(I)V" } : MethodName) ∈ zT := zT_sel 86 rfl rfl
theorem zws_87 : Cond.selects "ChequeredClothModel" ({ cls := "ChequeredClothModel", name := "writOf", desc := "(I)I" } : MethodName) ({ cls := "ChequeredClothModel", name := "writOf", desc := "(I)I" } : MethodName) ∈ zT := zT_sel 87 rfl rfl
theorem zws_88 : Cond.selects "ChequeredClothModel" ({ cls := "ChequeredClothModel", name := "isKnown", desc := "(I)Z" } : MethodName) ({ cls := "ChequeredClothModel", name := "isKnown", desc := "(I)Z" } : MethodName) ∈ zT := zT_sel 88 rfl rfl
theorem zws_89 : Cond.selects "ChequeredClothModel" ({ cls := "ChequeredClothModel", name := "rolls", desc := "(II)J" } : MethodName) ({ cls := "ChequeredClothModel", name := "rolls", desc := "(II)J" } : MethodName) ∈ zT := zT_sel 89 rfl rfl
theorem zws_90 : Cond.selects "ChequeredClothModel" ({ cls := "ChequeredClothModel", name := "does", desc := "(II)V" } : MethodName) ({ cls := "ChequeredClothModel", name := "does", desc := "(II)V" } : MethodName) ∈ zT := zT_sel 90 rfl rfl
theorem zws_91 : Cond.selects "ChequeredClothModel" ({ cls := "ChequeredClothModel", name := "holds", desc := "(II)Z" } : MethodName) ({ cls := "ChequeredClothModel", name := "holds", desc := "(II)Z" } : MethodName) ∈ zT := zT_sel 91 rfl rfl
theorem zws_92 : Cond.selects "ChequeredClothModel" ({ cls := "ChequeredClothModel", name := "tells", desc := "(III)J" } : MethodName) ({ cls := "ChequeredClothModel", name := "tells", desc := "(III)J" } : MethodName) ∈ zT := zT_sel 92 rfl rfl
theorem zws_93 : Cond.selects "ChequeredClothModel" ({ cls := "ChequeredClothModel", name := "puts", desc := "(J)V" } : MethodName) ({ cls := "ChequeredClothModel", name := "puts", desc := "(J)V" } : MethodName) ∈ zT := zT_sel 93 rfl rfl
theorem zws_94 : Cond.selects "ChequeredClothModel" ({ cls := "ChequeredClothModel", name := "joins", desc := "(I)V" } : MethodName) ({ cls := "ChequeredClothModel", name := "joins", desc := "(I)V" } : MethodName) ∈ zT := zT_sel 94 rfl rfl
theorem zws_95 : Cond.selects "ChequeredClothModel" ({ cls := "ChequeredClothModel", name := "amount", desc := "(II)J" } : MethodName) ({ cls := "ChequeredClothModel", name := "amount", desc := "(II)J" } : MethodName) ∈ zT := zT_sel 95 rfl rfl
theorem zws_96 : Cond.selects "ChequeredClothModel" ({ cls := "ChequeredClothModel", name := "takesPayments", desc := "()V" } : MethodName) ({ cls := "ChequeredClothModel", name := "takesPayments", desc := "()V" } : MethodName) ∈ zT := zT_sel 96 rfl rfl
theorem zws_97 : Cond.selects "ChequeredClothModel" ({ cls := "ChequeredClothModel", name := "fireOf", desc := "(I)I" } : MethodName) ({ cls := "ChequeredClothModel", name := "fireOf", desc := "(I)I" } : MethodName) ∈ zT := zT_sel 97 rfl rfl
theorem zws_98 : Cond.selects "ChequeredClothModel" ({ cls := "ChequeredClothModel", name := "putOff", desc := "(I)J" } : MethodName) ({ cls := "ChequeredClothModel", name := "putOff", desc := "(I)J" } : MethodName) ∈ zT := zT_sel 98 rfl rfl
theorem znw_0 : (Cond.methodLinkNest "ChequeredCloth" (15 : Nat) ({ cls := "ChequeredCloth$Counters", name := "<init>", desc := "()V" } : MethodName) "ChequeredCloth") ∈ zN := List.mem_of_getElem? (i := 0) rfl
theorem znw_1 : (Cond.methodLinkNest "ChequeredCloth$Chest" (35 : Nat) ({ cls := "ChequeredCloth$Matcher", name := "<init>", desc := "()V" } : MethodName) "ChequeredCloth") ∈ zN := List.mem_of_getElem? (i := 1) rfl
theorem znw_2 : (Cond.methodLinkNest "ChequeredCloth" (29 : Nat) ({ cls := "ChequeredCloth$Reader", name := "<init>", desc := "()V" } : MethodName) "ChequeredCloth") ∈ zN := List.mem_of_getElem? (i := 2) rfl
theorem znw_3 : (Cond.methodLinkNest "ChequeredCloth" (36 : Nat) ({ cls := "ChequeredCloth$Acts", name := "<init>", desc := "()V" } : MethodName) "ChequeredCloth") ∈ zN := List.mem_of_getElem? (i := 3) rfl
theorem znw_4 : (Cond.fieldLinkNest "ChequeredCloth$Audit" (120 : Nat) "ChequeredCloth$Acts" "kinds" "[I" "ChequeredCloth") ∈ zN := List.mem_of_getElem? (i := 4) rfl
theorem znw_5 : (Cond.fieldLinkNest "ChequeredCloth$Known" (74 : Nat) "ChequeredCloth$Acts" "kinds" "[I" "ChequeredCloth") ∈ zN := List.mem_of_getElem? (i := 5) rfl
theorem znw_6 : (Cond.fieldLinkNest "ChequeredCloth$Roll" (180 : Nat) "ChequeredCloth$Acts" "kinds" "[I" "ChequeredCloth") ∈ zN := List.mem_of_getElem? (i := 6) rfl
theorem znw_7 : (Cond.fieldLinkNest "ChequeredCloth$Audit" (130 : Nat) "ChequeredCloth$Acts" "shires" "[I" "ChequeredCloth") ∈ zN := List.mem_of_getElem? (i := 7) rfl
theorem znw_8 : (Cond.fieldLinkNest "ChequeredCloth$Roll" (167 : Nat) "ChequeredCloth$Acts" "shires" "[I" "ChequeredCloth") ∈ zN := List.mem_of_getElem? (i := 8) rfl
theorem znw_9 : (Cond.fieldLinkNest "ChequeredCloth$Known" (50 : Nat) "ChequeredCloth$Acts" "terms" "[I" "ChequeredCloth") ∈ zN := List.mem_of_getElem? (i := 9) rfl
theorem znw_10 : (Cond.fieldLinkNest "ChequeredCloth$Audit" (109 : Nat) "ChequeredCloth$Acts" "terms" "[I" "ChequeredCloth") ∈ zN := List.mem_of_getElem? (i := 10) rfl
theorem znw_11 : (Cond.fieldLinkNest "ChequeredCloth$Known" (64 : Nat) "ChequeredCloth$Acts" "amounts" "[I" "ChequeredCloth") ∈ zN := List.mem_of_getElem? (i := 11) rfl
theorem znw_12 : (Cond.fieldLinkNest "ChequeredCloth$Roll" (177 : Nat) "ChequeredCloth$Acts" "amounts" "[I" "ChequeredCloth") ∈ zN := List.mem_of_getElem? (i := 12) rfl
theorem znw_13 : (Cond.fieldLinkNest "ChequeredCloth$Known" (61 : Nat) "ChequeredCloth$Acts" "writs" "[LChequeredCloth$Writ;" "ChequeredCloth") ∈ zN := List.mem_of_getElem? (i := 13) rfl
theorem znw_14 : (Cond.methodLinkNest "ChequeredCloth$Audit" (29 : Nat) ({ cls := "ChequeredCloth$Judge", name := "<init>", desc := "()V" } : MethodName) "ChequeredCloth") ∈ zN := List.mem_of_getElem? (i := 14) rfl
theorem znw_15 : (Cond.methodLinkNest "ChequeredCloth$Chest" (77 : Nat) ({ cls := "ChequeredCloth", name := "isStick", desc := "(I)Z" } : MethodName) "ChequeredCloth") ∈ zN := List.mem_of_getElem? (i := 15) rfl
theorem znw_16 : (Cond.methodLinkNest "ChequeredCloth$Matcher" (49 : Nat) ({ cls := "ChequeredCloth", name := "isStick", desc := "(I)Z" } : MethodName) "ChequeredCloth") ∈ zN := List.mem_of_getElem? (i := 16) rfl
theorem znw_17 : (Cond.methodLinkNest "ChequeredCloth$Reader" (72 : Nat) ({ cls := "ChequeredCloth$Statement", name := "<init>", desc := "()V" } : MethodName) "ChequeredCloth") ∈ zN := List.mem_of_getElem? (i := 17) rfl
theorem znw_18 : (Cond.fieldLinkNest "ChequeredCloth$Reader" (104 : Nat) "ChequeredCloth$Statement" "kind" "I" "ChequeredCloth") ∈ zN := List.mem_of_getElem? (i := 18) rfl
theorem znw_19 : (Cond.fieldLinkNest "ChequeredCloth$Roll" (118 : Nat) "ChequeredCloth$Statement" "kind" "I" "ChequeredCloth") ∈ zN := List.mem_of_getElem? (i := 19) rfl
theorem znw_20 : (Cond.fieldLinkNest "ChequeredCloth$Reader" (110 : Nat) "ChequeredCloth$Statement" "blanched" "Z" "ChequeredCloth") ∈ zN := List.mem_of_getElem? (i := 20) rfl
theorem znw_21 : (Cond.fieldLinkNest "ChequeredCloth$Roll" (151 : Nat) "ChequeredCloth$Statement" "blanched" "Z" "ChequeredCloth") ∈ zN := List.mem_of_getElem? (i := 21) rfl
theorem znw_22 : (Cond.fieldLinkNest "ChequeredCloth$Reader" (121 : Nat) "ChequeredCloth$Statement" "first" "I" "ChequeredCloth") ∈ zN := List.mem_of_getElem? (i := 22) rfl
theorem znw_23 : (Cond.fieldLinkNest "ChequeredCloth$Roll" (155 : Nat) "ChequeredCloth$Statement" "first" "I" "ChequeredCloth") ∈ zN := List.mem_of_getElem? (i := 23) rfl
theorem znw_24 : (Cond.fieldLinkNest "ChequeredCloth$Reader" (126 : Nat) "ChequeredCloth$Statement" "second" "I" "ChequeredCloth") ∈ zN := List.mem_of_getElem? (i := 24) rfl
theorem znw_25 : (Cond.fieldLinkNest "ChequeredCloth$Roll" (152 : Nat) "ChequeredCloth$Statement" "second" "I" "ChequeredCloth") ∈ zN := List.mem_of_getElem? (i := 25) rfl
theorem znw_26 : (Cond.fieldLinkNest "ChequeredCloth$Reader" (73 : Nat) "ChequeredCloth$Statement" "from" "I" "ChequeredCloth") ∈ zN := List.mem_of_getElem? (i := 26) rfl
theorem znw_27 : (Cond.fieldLinkNest "ChequeredCloth$Roll" (145 : Nat) "ChequeredCloth$Statement" "from" "I" "ChequeredCloth") ∈ zN := List.mem_of_getElem? (i := 27) rfl
theorem znw_28 : (Cond.fieldLinkNest "ChequeredCloth$Reader" (80 : Nat) "ChequeredCloth$Statement" "test" "I" "ChequeredCloth") ∈ zN := List.mem_of_getElem? (i := 28) rfl
theorem znw_29 : (Cond.fieldLinkNest "ChequeredCloth$Roll" (131 : Nat) "ChequeredCloth$Statement" "test" "I" "ChequeredCloth") ∈ zN := List.mem_of_getElem? (i := 29) rfl
theorem znw_30 : (Cond.fieldLinkNest "ChequeredCloth$Reader" (92 : Nat) "ChequeredCloth$Statement" "end" "I" "ChequeredCloth") ∈ zN := List.mem_of_getElem? (i := 30) rfl
theorem znw_31 : (Cond.fieldLinkNest "ChequeredCloth$Roll" (134 : Nat) "ChequeredCloth$Statement" "end" "I" "ChequeredCloth") ∈ zN := List.mem_of_getElem? (i := 31) rfl
theorem znw_32 : (Cond.fieldLinkNest "ChequeredCloth$Audit" (68 : Nat) "ChequeredCloth$Writ" "statements" "[LChequeredCloth$Statement;" "ChequeredCloth") ∈ zN := List.mem_of_getElem? (i := 32) rfl
theorem znw_33 : (Cond.fieldLinkNest "ChequeredCloth$Roll" (112 : Nat) "ChequeredCloth$Writ" "statements" "[LChequeredCloth$Statement;" "ChequeredCloth") ∈ zN := List.mem_of_getElem? (i := 33) rfl
theorem znw_34 : (Cond.fieldLinkNest "ChequeredCloth$Roll" (127 : Nat) "ChequeredCloth$Writ" "code" "[I" "ChequeredCloth") ∈ zN := List.mem_of_getElem? (i := 34) rfl
theorem znw_35 : (Cond.methodLinkNest "ChequeredCloth$Known" (57 : Nat) ({ cls := "ChequeredCloth", name := "isTerm", desc := "(I)Z" } : MethodName) "ChequeredCloth") ∈ zN := List.mem_of_getElem? (i := 35) rfl
theorem znw_36 : (Cond.methodLinkNest "ChequeredCloth$Audit" (74 : Nat) ({ cls := "ChequeredCloth", name := "isShire", desc := "(I)Z" } : MethodName) "ChequeredCloth") ∈ zN := List.mem_of_getElem? (i := 36) rfl
theorem znw_37 : (Cond.methodLinkNest "ChequeredCloth$Roll" (102 : Nat) ({ cls := "ChequeredCloth", name := "isTerm", desc := "(I)Z" } : MethodName) "ChequeredCloth") ∈ zN := List.mem_of_getElem? (i := 37) rfl
theorem zin0 : ∀ w ∈ u_ws RX0 TX0 8, w ∈ zT := by
  intro w h
  obtain ⟨k, hk, rfl⟩ := List.mem_map.mp h
  have hall : ∀ k, k < 8 → u_lay RX0 TX0 k ∈ zT := (lt_s (lt_s (lt_s (lt_s (lt_s (lt_s (lt_s (lt_s lt_0 zw_202) zw_204) zw_206) zw_208) zw_210) zw_212) zw_214) zw_216)
  exact hall k (List.mem_range.mp hk)
theorem zin1 : ∀ w ∈ u_ws RX1 TX1 10, w ∈ zT := by
  intro w h
  obtain ⟨k, hk, rfl⟩ := List.mem_map.mp h
  have hall : ∀ k, k < 10 → u_lay RX1 TX1 k ∈ zT := (lt_s (lt_s (lt_s (lt_s (lt_s (lt_s (lt_s (lt_s (lt_s (lt_s lt_0 zw_332) zw_334) zw_336) zw_338) zw_340) zw_342) zw_344) zw_346) zw_348) zw_350)
  exact hall k (List.mem_range.mp hk)
theorem zin2 : ∀ w ∈ u_ws RX2 TX2 13, w ∈ zT := by
  intro w h
  obtain ⟨k, hk, rfl⟩ := List.mem_map.mp h
  have hall : ∀ k, k < 13 → u_lay RX2 TX2 k ∈ zT := (lt_s (lt_s (lt_s (lt_s (lt_s (lt_s (lt_s (lt_s (lt_s (lt_s (lt_s (lt_s (lt_s lt_0 zw_103) zw_105) zw_107) zw_109) zw_111) zw_113) zw_115) zw_117) zw_119) zw_121) zw_123) zw_125) zw_127)
  exact hall k (List.mem_range.mp hk)
theorem zin3 : ∀ w ∈ u_ws RX3 TX3 3, w ∈ zT := by
  intro w h
  obtain ⟨k, hk, rfl⟩ := List.mem_map.mp h
  have hall : ∀ k, k < 3 → u_lay RX3 TX3 k ∈ zT := (lt_s (lt_s (lt_s lt_0 zw_38) zw_40) zw_42)
  exact hall k (List.mem_range.mp hk)
theorem zin4 : ∀ w ∈ u_ws RX4 TX4 5, w ∈ zT := by
  intro w h
  obtain ⟨k, hk, rfl⟩ := List.mem_map.mp h
  have hall : ∀ k, k < 5 → u_lay RX4 TX4 k ∈ zT := (lt_s (lt_s (lt_s (lt_s (lt_s lt_0 zw_238) zw_240) zw_242) zw_244) zw_246)
  exact hall k (List.mem_range.mp hk)
theorem zin5 : ∀ w ∈ u_ws RX5 TX5 5, w ∈ zT := by
  intro w h
  obtain ⟨k, hk, rfl⟩ := List.mem_map.mp h
  have hall : ∀ k, k < 5 → u_lay RX5 TX5 k ∈ zT := (lt_s (lt_s (lt_s (lt_s (lt_s lt_0 zw_260) zw_262) zw_264) zw_266) zw_268)
  exact hall k (List.mem_range.mp hk)
theorem zin6 : ∀ w ∈ u_ws RX6 TX6 8, w ∈ zT := by
  intro w h
  obtain ⟨k, hk, rfl⟩ := List.mem_map.mp h
  have hall : ∀ k, k < 8 → u_lay RX6 TX6 k ∈ zT := (lt_s (lt_s (lt_s (lt_s (lt_s (lt_s (lt_s (lt_s lt_0 zw_68) zw_70) zw_72) zw_74) zw_76) zw_78) zw_80) zw_82)
  exact hall k (List.mem_range.mp hk)
theorem zin7 : ∀ w ∈ u_ws RX7 TX7 12, w ∈ zT := by
  intro w h
  obtain ⟨k, hk, rfl⟩ := List.mem_map.mp h
  have hall : ∀ k, k < 12 → u_lay RX7 TX7 k ∈ zT := (lt_s (lt_s (lt_s (lt_s (lt_s (lt_s (lt_s (lt_s (lt_s (lt_s (lt_s (lt_s lt_0 zw_150) zw_152) zw_154) zw_156) zw_158) zw_160) zw_162) zw_164) zw_166) zw_168) zw_170) zw_172)
  exact hall k (List.mem_range.mp hk)
theorem zin8 : ∀ w ∈ u_ws RX8 TX8 15, w ∈ zT := by
  intro w h
  obtain ⟨k, hk, rfl⟩ := List.mem_map.mp h
  have hall : ∀ k, k < 15 → u_lay RX8 TX8 k ∈ zT := (lt_s (lt_s (lt_s (lt_s (lt_s (lt_s (lt_s (lt_s (lt_s (lt_s (lt_s (lt_s (lt_s (lt_s (lt_s lt_0 zw_291) zw_293) zw_295) zw_297) zw_299) zw_301) zw_303) zw_305) zw_307) zw_309) zw_311) zw_313) zw_315) zw_317) zw_319)
  exact hall k (List.mem_range.mp hk)
theorem zin9 : ∀ w ∈ u_ws RX9 TX9 7, w ∈ zT := by
  intro w h
  obtain ⟨k, hk, rfl⟩ := List.mem_map.mp h
  have hall : ∀ k, k < 7 → u_lay RX9 TX9 k ∈ zT := (lt_s (lt_s (lt_s (lt_s (lt_s (lt_s (lt_s lt_0 zw_667) zw_669) zw_671) zw_673) zw_675) zw_677) zw_679)
  exact hall k (List.mem_range.mp hk)
theorem zin10 : ∀ w ∈ u_ws RX10 TX10 2, w ∈ zT := by
  intro w h
  obtain ⟨k, hk, rfl⟩ := List.mem_map.mp h
  have hall : ∀ k, k < 2 → u_lay RX10 TX10 k ∈ zT := (lt_s (lt_s lt_0 zw_850) zw_852)
  exact hall k (List.mem_range.mp hk)
theorem zin11 : ∀ w ∈ u_ws RX11 TX11 6, w ∈ zT := by
  intro w h
  obtain ⟨k, hk, rfl⟩ := List.mem_map.mp h
  have hall : ∀ k, k < 6 → u_lay RX11 TX11 k ∈ zT := (lt_s (lt_s (lt_s (lt_s (lt_s (lt_s lt_0 zw_359) zw_361) zw_363) zw_365) zw_367) zw_369)
  exact hall k (List.mem_range.mp hk)
theorem zin12 : ∀ w ∈ u_ws RX12 TX12 85, w ∈ zT := by
  intro w h
  obtain ⟨k, hk, rfl⟩ := List.mem_map.mp h
  have hall : ∀ k, k < 85 → u_lay RX12 TX12 k ∈ zT := (lt_s (lt_s (lt_s (lt_s (lt_s (lt_s (lt_s (lt_s (lt_s (lt_s (lt_s (lt_s (lt_s (lt_s (lt_s (lt_s (lt_s (lt_s (lt_s (lt_s (lt_s (lt_s (lt_s (lt_s (lt_s (lt_s (lt_s (lt_s (lt_s (lt_s (lt_s (lt_s (lt_s (lt_s (lt_s (lt_s (lt_s (lt_s (lt_s (lt_s (lt_s (lt_s (lt_s (lt_s (lt_s (lt_s (lt_s (lt_s (lt_s (lt_s (lt_s (lt_s (lt_s (lt_s (lt_s (lt_s (lt_s (lt_s (lt_s (lt_s (lt_s (lt_s (lt_s (lt_s (lt_s (lt_s (lt_s (lt_s (lt_s (lt_s (lt_s (lt_s (lt_s (lt_s (lt_s (lt_s (lt_s (lt_s (lt_s (lt_s (lt_s (lt_s (lt_s (lt_s (lt_s lt_0 zw_1253) zw_1255) zw_1257) zw_1259) zw_1261) zw_1263) zw_1265) zw_1267) zw_1269) zw_1271) zw_1273) zw_1275) zw_1277) zw_1279) zw_1281) zw_1283) zw_1285) zw_1287) zw_1289) zw_1291) zw_1293) zw_1295) zw_1297) zw_1299) zw_1301) zw_1303) zw_1305) zw_1307) zw_1309) zw_1311) zw_1313) zw_1315) zw_1317) zw_1319) zw_1321) zw_1323) zw_1325) zw_1327) zw_1329) zw_1331) zw_1333) zw_1335) zw_1337) zw_1339) zw_1341) zw_1343) zw_1345) zw_1347) zw_1349) zw_1351) zw_1353) zw_1355) zw_1357) zw_1359) zw_1361) zw_1363) zw_1365) zw_1367) zw_1369) zw_1371) zw_1373) zw_1375) zw_1377) zw_1379) zw_1381) zw_1383) zw_1385) zw_1387) zw_1389) zw_1391) zw_1393) zw_1395) zw_1397) zw_1399) zw_1401) zw_1403) zw_1405) zw_1407) zw_1409) zw_1411) zw_1413) zw_1415) zw_1417) zw_1419) zw_1421)
  exact hall k (List.mem_range.mp hk)
