/-! the words of the tables, one by one -/
/-- private methods of the class above, found for receivers of the two classes below: derived words -/
def eS : List Cond := [.selects RX4 yX3_reset yX3_reset, .selects RX4 yX3_moveTo yX3_moveTo, .selects RX4 yX3_valueOf yX3_valueOf, .selects RX4 yX3_nextBlock yX3_nextBlock, .selects RX6 yX3_reset yX3_reset, .selects RX6 yX3_moveTo yX3_moveTo, .selects RX6 yX3_valueOf yX3_valueOf, .selects RX6 yX3_nextBlock yX3_nextBlock]
def GW : List Cond := eS ++ lw_tbl.filter goodWord
theorem eS_good : ∀ w ∈ eS, goodWord w = true := by
  intro w hw
  simp only [eS, List.mem_cons, List.not_mem_nil, or_false] at hw
  rcases hw with rfl | rfl | rfl | rfl | rfl | rfl | rfl | rfl <;> rfl
theorem we_ {i : Nat} {w : Cond} (h : eS[i]? = some w) : w ∈ GW := List.mem_append_left _ (List.mem_of_getElem? h)
def isNw : Cond → Bool
  | .methodLinkNest .. => true
  | .declares _ => true
  | .castable .. => true
  | _ => false
def NW : List Cond := tables_1.filter isNw
theorem gw_good {w : Cond} (h : w ∈ GW) : (w.onTables && w.keeps) = true ∨ ∃ ty, w = .arrayClass ty := good_of_word ((List.mem_append.mp h).elim (eS_good w) (fun h => (List.mem_filter.mp h).2))
theorem gw_in {w : Cond} (h : w ∈ tables_1) (g : goodWord w = true) : w ∈ GW := List.mem_append_right _ (List.mem_filter.mpr ⟨List.mem_append_right _ h, g⟩)
theorem gw_pr {i : Nat} {q : MethodName × Nat} (h : lw_privs[i]? = some q) : Cond.selects q.1.cls q.1 q.1 ∈ GW := List.mem_append_right _ (List.mem_filter.mpr ⟨List.mem_append_left _ (List.mem_map.mpr ⟨q, List.mem_of_getElem? h, rfl⟩), rfl⟩)
theorem tb1 {i : Nat} {w : Cond} (hi : tables_1_1[i]? = some w) : w ∈ tables_1 := by
  have h := List.mem_of_getElem? hi
  exact List.mem_append_left _ h
theorem tb2 {i : Nat} {w : Cond} (hi : tables_1_2[i]? = some w) : w ∈ tables_1 := by
  have h := List.mem_of_getElem? hi
  exact List.mem_append_right _ (List.mem_append_left _ h)
theorem tb3 {i : Nat} {w : Cond} (hi : tables_1_3[i]? = some w) : w ∈ tables_1 := by
  have h := List.mem_of_getElem? hi
  exact List.mem_append_right _ (List.mem_append_right _ (List.mem_append_left _ h))
theorem tb4 {i : Nat} {w : Cond} (hi : tables_1_4[i]? = some w) : w ∈ tables_1 := by
  have h := List.mem_of_getElem? hi
  exact List.mem_append_right _ (List.mem_append_right _ (List.mem_append_right _ (List.mem_append_left _ h)))
theorem tb5 {i : Nat} {w : Cond} (hi : tables_1_5[i]? = some w) : w ∈ tables_1 := by
  have h := List.mem_of_getElem? hi
  exact List.mem_append_right _ (List.mem_append_right _ (List.mem_append_right _ (List.mem_append_right _ (List.mem_append_left _ h))))
theorem tb6 {i : Nat} {w : Cond} (hi : tables_1_6[i]? = some w) : w ∈ tables_1 := by
  have h := List.mem_of_getElem? hi
  exact List.mem_append_right _ (List.mem_append_right _ (List.mem_append_right _ (List.mem_append_right _ (List.mem_append_right _ (List.mem_append_left _ h)))))
theorem tb7 {i : Nat} {w : Cond} (hi : tables_1_7[i]? = some w) : w ∈ tables_1 := by
  have h := List.mem_of_getElem? hi
  exact List.mem_append_right _ (List.mem_append_right _ (List.mem_append_right _ (List.mem_append_right _ (List.mem_append_right _ (List.mem_append_right _ (List.mem_append_left _ h))))))
theorem tb8 {i : Nat} {w : Cond} (hi : tables_1_8[i]? = some w) : w ∈ tables_1 := by
  have h := List.mem_of_getElem? hi
  exact List.mem_append_right _ (List.mem_append_right _ (List.mem_append_right _ (List.mem_append_right _ (List.mem_append_right _ (List.mem_append_right _ (List.mem_append_right _ (h)))))))
theorem w1_0 : Cond.initialized "SpillPlannerLaw" ∈ GW := gw_in (tb1 (i := 0) rfl) rfl
theorem w1_1 : Cond.initialized "SpillPlanner" ∈ GW := gw_in (tb1 (i := 1) rfl) rfl
theorem w1_2 : Cond.initialized "SpillPlanner$Program" ∈ GW := gw_in (tb1 (i := 2) rfl) rfl
theorem w1_3 : Cond.initialized "SpillPlanner$Block" ∈ GW := gw_in (tb1 (i := 3) rfl) rfl
theorem w1_4 : Cond.initialized "SpillPlanner$Facts" ∈ GW := gw_in (tb1 (i := 4) rfl) rfl
theorem w1_5 : Cond.initialized "SpillPlanner$LoopFinder" ∈ GW := gw_in (tb1 (i := 5) rfl) rfl
theorem w1_6 : Cond.initialized "SpillPlanner$Plan" ∈ GW := gw_in (tb1 (i := 6) rfl) rfl
theorem w1_7 : Cond.initialized "SpillPlanner$Machine" ∈ GW := gw_in (tb1 (i := 7) rfl) rfl
theorem w1_8 : Cond.initialized "SpillPlanner$PlainMachine" ∈ GW := gw_in (tb1 (i := 8) rfl) rfl
theorem w1_9 : Cond.initialized "SpillPlanner$PlanMachine" ∈ GW := gw_in (tb1 (i := 9) rfl) rfl
theorem w1_10 : Cond.initialized "SpillPlanner$Reader" ∈ GW := gw_in (tb1 (i := 10) rfl) rfl
theorem w1_11 : Cond.initialized "SpillPlannerModel" ∈ GW := gw_in (tb1 (i := 11) rfl) rfl
theorem w1_12 : Cond.initialized "java/lang/Throwable" ∈ GW := gw_in (tb1 (i := 12) rfl) rfl
theorem w1_13 : Cond.initialized "java/lang/Exception" ∈ GW := gw_in (tb1 (i := 13) rfl) rfl
theorem w1_14 : Cond.initialized "java/lang/RuntimeException" ∈ GW := gw_in (tb1 (i := 14) rfl) rfl
theorem w1_15 : Cond.initialized "java/lang/IllegalArgumentException" ∈ GW := gw_in (tb1 (i := 15) rfl) rfl
theorem w1_16 : Cond.initialized "java/util/Arrays" ∈ GW := gw_in (tb1 (i := 16) rfl) rfl
theorem w1_17 : Cond.initialized "java/lang/IndexOutOfBoundsException" ∈ GW := gw_in (tb1 (i := 17) rfl) rfl
theorem w1_18 : Cond.initialized "java/lang/ArrayIndexOutOfBoundsException" ∈ GW := gw_in (tb1 (i := 18) rfl) rfl
theorem w1_19 : Cond.initialized "java/lang/String" ∈ GW := gw_in (tb1 (i := 19) rfl) rfl
theorem w1_20 : Cond.initialized "java/lang/IllegalStateException" ∈ GW := gw_in (tb1 (i := 20) rfl) rfl
theorem w1_21 : Cond.initialized "java/util/NoSuchElementException" ∈ GW := gw_in (tb1 (i := 21) rfl) rfl
theorem w1_22 : Cond.initialized "java/lang/Integer" ∈ GW := gw_in (tb1 (i := 22) rfl) rfl
theorem w1_23 : Cond.initialized "java/lang/Math" ∈ GW := gw_in (tb1 (i := 23) rfl) rfl
theorem w1_24 : Cond.initialized "java/lang/UnsupportedOperationException" ∈ GW := gw_in (tb1 (i := 24) rfl) rfl
theorem w1_25 : Cond.initialized "java/lang/ArithmeticException" ∈ GW := gw_in (tb1 (i := 25) rfl) rfl
theorem w1_26 : Cond.initialized "java/lang/System" ∈ GW := gw_in (tb1 (i := 26) rfl) rfl
theorem w1_27 : Cond.initialized "java/lang/StringLatin1" ∈ GW := gw_in (tb1 (i := 27) rfl) rfl
theorem w1_28 : Cond.initialized "jdk/internal/util/Preconditions" ∈ GW := gw_in (tb1 (i := 28) rfl) rfl
theorem w1_29 : Cond.initialized "java/lang/StringUTF16" ∈ GW := gw_in (tb1 (i := 29) rfl) rfl
theorem w1_30 : Cond.classLink "SpillPlannerLaw" 8 "SpillPlanner" ∈ GW := gw_in (tb1 (i := 30) rfl) rfl
theorem w1_31 : Cond.instantiable "SpillPlanner" 14 ∈ GW := gw_in (tb1 (i := 31) rfl) rfl
theorem w1_32 : Cond.methodLink "SpillPlannerLaw" 97 yX9_init ∈ GW := gw_in (tb1 (i := 32) rfl) rfl
theorem w1_33 : Cond.instanceMethod yX9_init ∈ GW := gw_in (tb1 (i := 33) rfl) rfl
theorem w1_34 : Cond.code yX9_init prog_1_method_1_code 5 (Option.none : Option FieldType) ∈ GW := gw_in (tb1 (i := 34) rfl) rfl
theorem w1_35 : Cond.methodLink "SpillPlanner" 3 (⟨"java/lang/Object", "<init>", "()V"⟩ : MethodName) ∈ GW := gw_in (tb1 (i := 35) rfl) rfl
theorem w1_36 : Cond.instanceMethod (⟨"java/lang/Object", "<init>", "()V"⟩ : MethodName) ∈ GW := gw_in (tb1 (i := 36) rfl) rfl
theorem w1_37 : Cond.code (⟨"java/lang/Object", "<init>", "()V"⟩ : MethodName) object_method_1_code 1 (Option.none : Option FieldType) ∈ GW := gw_in (tb1 (i := 37) rfl) rfl
theorem w1_38 : Cond.classLink "SpillPlanner" 9 "SpillPlanner$Program" ∈ GW := gw_in (tb1 (i := 38) rfl) rfl
theorem w1_39 : Cond.instantiable "SpillPlanner$Program" 3 ∈ GW := gw_in (tb1 (i := 39) rfl) rfl
theorem w1_40 : Cond.methodLink "SpillPlanner" 11 yX7_init ∈ GW := gw_in (tb1 (i := 40) rfl) rfl
theorem w1_41 : Cond.instanceMethod yX7_init ∈ GW := gw_in (tb1 (i := 41) rfl) rfl
theorem w1_42 : Cond.code yX7_init prog_9_method_1_code 2 (Option.none : Option FieldType) ∈ GW := gw_in (tb1 (i := 42) rfl) rfl
theorem w1_43 : Cond.methodLink "SpillPlanner$Program" 3 (⟨"java/lang/Object", "<init>", "()V"⟩ : MethodName) ∈ GW := gw_in (tb1 (i := 43) rfl) rfl
theorem w1_44 : Cond.classLink "SpillPlanner$Program" 9 "SpillPlanner$Block" ∈ GW := gw_in (tb1 (i := 44) rfl) rfl
theorem w1_46 : Cond.instantiable "SpillPlanner$Block" 10 ∈ GW := gw_in (tb1 (i := 46) rfl) rfl
theorem w1_47 : Cond.methodLink "SpillPlanner$Program" 21 yX0_init ∈ GW := gw_in (tb1 (i := 47) rfl) rfl
theorem w1_48 : Cond.instanceMethod yX0_init ∈ GW := gw_in (tb1 (i := 48) rfl) rfl
theorem w1_49 : Cond.code yX0_init prog_2_method_1_code 1 (Option.none : Option FieldType) ∈ GW := gw_in (tb1 (i := 49) rfl) rfl
theorem w1_50 : Cond.methodLink "SpillPlanner$Block" 3 (⟨"java/lang/Object", "<init>", "()V"⟩ : MethodName) ∈ GW := gw_in (tb1 (i := 50) rfl) rfl
theorem w1_51 : Cond.methodLink "SpillPlanner$Block" 24 yX0_begin ∈ GW := gw_in (tb1 (i := 51) rfl) rfl
theorem w1_52 : Cond.instanceMethod yX0_begin ∈ GW := gw_in (tb1 (i := 52) rfl) rfl
theorem w1_53 : Cond.selects "SpillPlanner$Block" yX0_begin yX0_begin ∈ GW := gw_in (tb1 (i := 53) rfl) rfl
theorem w1_54 : Cond.code yX0_begin prog_2_method_2_code 1 (Option.none : Option FieldType) ∈ GW := gw_in (tb1 (i := 54) rfl) rfl
theorem w1_55 : Cond.methodLink "SpillPlanner$Block" 31 yX0_finish ∈ GW := gw_in (tb1 (i := 55) rfl) rfl
theorem w1_56 : Cond.instanceMethod yX0_finish ∈ GW := gw_in (tb1 (i := 56) rfl) rfl
theorem w1_57 : Cond.selects "SpillPlanner$Block" yX0_finish yX0_finish ∈ GW := gw_in (tb1 (i := 57) rfl) rfl
theorem w1_58 : Cond.code yX0_finish prog_2_method_4_code 5 (Option.none : Option FieldType) ∈ GW := gw_in (tb1 (i := 58) rfl) rfl
theorem w1_59 : Cond.fieldLink "SpillPlanner$Block" 9 "SpillPlanner$Block" "kinds" "[I" ∈ GW := gw_in (tb1 (i := 59) rfl) rfl
theorem w1_60 : Cond.fieldLink "SpillPlanner" 124 "SpillPlanner$Block" "kinds" "[I" ∈ GW := gw_in (tb1 (i := 60) rfl) rfl
theorem w1_61 : Cond.fieldLink "SpillPlanner$Facts" 91 "SpillPlanner$Block" "kinds" "[I" ∈ GW := gw_in (tb1 (i := 61) rfl) rfl
theorem w1_62 : Cond.fieldLink "SpillPlanner$Machine" 98 "SpillPlanner$Block" "kinds" "[I" ∈ GW := gw_in (tb1 (i := 62) rfl) rfl
theorem w1_63 : Cond.fieldLink "SpillPlanner$Block" 15 "SpillPlanner$Block" "targets" "[I" ∈ GW := gw_in (tb1 (i := 63) rfl) rfl
theorem w1_64 : Cond.fieldLink "SpillPlanner$Facts" 81 "SpillPlanner$Block" "targets" "[I" ∈ GW := gw_in (tb1 (i := 64) rfl) rfl
theorem w1_65 : Cond.fieldLink "SpillPlanner$Machine" 47 "SpillPlanner$Block" "targets" "[I" ∈ GW := gw_in (tb1 (i := 65) rfl) rfl
theorem w1_66 : Cond.fieldLink "SpillPlanner" 149 "SpillPlanner$Block" "targets" "[I" ∈ GW := gw_in (tb1 (i := 66) rfl) rfl
theorem w1_67 : Cond.fieldLink "SpillPlanner$Block" 18 "SpillPlanner$Block" "firsts" "[I" ∈ GW := gw_in (tb1 (i := 67) rfl) rfl
theorem w1_68 : Cond.fieldLink "SpillPlanner$Facts" 94 "SpillPlanner$Block" "firsts" "[I" ∈ GW := gw_in (tb1 (i := 68) rfl) rfl
theorem w1_69 : Cond.fieldLink "SpillPlanner" 152 "SpillPlanner$Block" "firsts" "[I" ∈ GW := gw_in (tb1 (i := 69) rfl) rfl
theorem w1_70 : Cond.fieldLink "SpillPlanner$Machine" 101 "SpillPlanner$Block" "firsts" "[I" ∈ GW := gw_in (tb1 (i := 70) rfl) rfl
theorem w1_71 : Cond.fieldLink "SpillPlanner$Block" 21 "SpillPlanner$Block" "seconds" "[I" ∈ GW := gw_in (tb1 (i := 71) rfl) rfl
theorem w1_72 : Cond.fieldLink "SpillPlanner" 155 "SpillPlanner$Block" "seconds" "[I" ∈ GW := gw_in (tb1 (i := 72) rfl) rfl
theorem w1_73 : Cond.fieldLink "SpillPlanner$Machine" 104 "SpillPlanner$Block" "seconds" "[I" ∈ GW := gw_in (tb1 (i := 73) rfl) rfl
theorem w1_74 : Cond.fieldLink "SpillPlanner$Block" 27 "SpillPlanner$Block" "size" "I" ∈ GW := gw_in (tb1 (i := 74) rfl) rfl
theorem w1_75 : Cond.fieldLink "SpillPlanner" 107 "SpillPlanner$Block" "size" "I" ∈ GW := gw_in (tb1 (i := 75) rfl) rfl
theorem w1_76 : Cond.fieldLink "SpillPlanner$Facts" 80 "SpillPlanner$Block" "size" "I" ∈ GW := gw_in (tb1 (i := 76) rfl) rfl
theorem w1_77 : Cond.fieldLink "SpillPlanner$Machine" 42 "SpillPlanner$Block" "size" "I" ∈ GW := gw_in (tb1 (i := 77) rfl) rfl
theorem w1_78 : Cond.fieldLink "SpillPlanner$Block" 38 "SpillPlanner$Block" "endKind" "I" ∈ GW := gw_in (tb1 (i := 78) rfl) rfl
theorem w1_79 : Cond.fieldLink "SpillPlanner" 132 "SpillPlanner$Block" "endKind" "I" ∈ GW := gw_in (tb1 (i := 79) rfl) rfl
theorem w1_80 : Cond.fieldLink "SpillPlanner$Machine" 57 "SpillPlanner$Block" "endKind" "I" ∈ GW := gw_in (tb1 (i := 80) rfl) rfl
theorem w1_81 : Cond.fieldLink "SpillPlanner$Block" 41 "SpillPlanner$Block" "endVariable" "I" ∈ GW := gw_in (tb1 (i := 81) rfl) rfl
theorem w1_82 : Cond.fieldLink "SpillPlanner$Machine" 60 "SpillPlanner$Block" "endVariable" "I" ∈ GW := gw_in (tb1 (i := 82) rfl) rfl
theorem w1_83 : Cond.fieldLink "SpillPlanner" 160 "SpillPlanner$Block" "endVariable" "I" ∈ GW := gw_in (tb1 (i := 83) rfl) rfl
theorem w1_84 : Cond.fieldLink "SpillPlanner$Block" 44 "SpillPlanner$Block" "endFirst" "I" ∈ GW := gw_in (tb1 (i := 84) rfl) rfl
theorem w1_85 : Cond.fieldLink "SpillPlanner$Machine" 92 "SpillPlanner$Block" "endFirst" "I" ∈ GW := gw_in (tb1 (i := 85) rfl) rfl
theorem w1_86 : Cond.fieldLink "SpillPlanner" 163 "SpillPlanner$Block" "endFirst" "I" ∈ GW := gw_in (tb1 (i := 86) rfl) rfl
theorem w1_87 : Cond.fieldLink "SpillPlanner$Block" 47 "SpillPlanner$Block" "endSecond" "I" ∈ GW := gw_in (tb1 (i := 87) rfl) rfl
theorem w1_88 : Cond.fieldLink "SpillPlanner$Machine" 95 "SpillPlanner$Block" "endSecond" "I" ∈ GW := gw_in (tb1 (i := 88) rfl) rfl
theorem w1_89 : Cond.fieldLink "SpillPlanner" 166 "SpillPlanner$Block" "endSecond" "I" ∈ GW := gw_in (tb1 (i := 89) rfl) rfl
theorem w1_90 : Cond.fieldLink "SpillPlanner$Block" 35 "SpillPlanner$Block" "frequency" "I" ∈ GW := gw_in (tb1 (i := 90) rfl) rfl
theorem w1_91 : Cond.fieldLink "SpillPlanner$Program" 39 "SpillPlanner$Block" "frequency" "I" ∈ GW := gw_in (tb1 (i := 91) rfl) rfl
theorem w1_92 : Cond.fieldLink "SpillPlanner" 140 "SpillPlanner$Block" "frequency" "I" ∈ GW := gw_in (tb1 (i := 92) rfl) rfl
theorem w1_93 : Cond.fieldLink "SpillPlanner$Plan" 158 "SpillPlanner$Block" "frequency" "I" ∈ GW := gw_in (tb1 (i := 93) rfl) rfl
theorem w1_94 : Cond.fieldLink "SpillPlanner$Facts" 124 "SpillPlanner$Block" "frequency" "I" ∈ GW := gw_in (tb1 (i := 94) rfl) rfl
theorem w1_95 : Cond.laysFinal "SpillPlanner$Block" "SpillPlanner$Block" "kinds" "[I" ∈ GW := gw_in (tb1 (i := 95) rfl) rfl
theorem w1_96 : Cond.soleField "SpillPlanner$Block" "kinds" ∈ GW := gw_in (tb1 (i := 96) rfl) rfl
theorem w1_97 : Cond.laysFinal "SpillPlanner$Block" "SpillPlanner$Block" "targets" "[I" ∈ GW := gw_in (tb1 (i := 97) rfl) rfl
theorem w1_98 : Cond.soleField "SpillPlanner$Block" "targets" ∈ GW := gw_in (tb1 (i := 98) rfl) rfl
theorem w1_99 : Cond.laysFinal "SpillPlanner$Block" "SpillPlanner$Block" "firsts" "[I" ∈ GW := gw_in (tb1 (i := 99) rfl) rfl
theorem w1_100 : Cond.soleField "SpillPlanner$Block" "firsts" ∈ GW := gw_in (tb1 (i := 100) rfl) rfl
theorem w1_101 : Cond.laysFinal "SpillPlanner$Block" "SpillPlanner$Block" "seconds" "[I" ∈ GW := gw_in (tb1 (i := 101) rfl) rfl
theorem w1_102 : Cond.soleField "SpillPlanner$Block" "seconds" ∈ GW := gw_in (tb1 (i := 102) rfl) rfl
theorem w1_103 : Cond.lays "SpillPlanner$Block" "SpillPlanner$Block" "size" "I" ∈ GW := gw_in (tb1 (i := 103) rfl) rfl
theorem w1_104 : Cond.soleField "SpillPlanner$Block" "size" ∈ GW := gw_in (tb1 (i := 104) rfl) rfl
theorem w1_105 : Cond.lays "SpillPlanner$Block" "SpillPlanner$Block" "endKind" "I" ∈ GW := gw_in (tb1 (i := 105) rfl) rfl
theorem w1_106 : Cond.soleField "SpillPlanner$Block" "endKind" ∈ GW := gw_in (tb1 (i := 106) rfl) rfl
theorem w1_107 : Cond.lays "SpillPlanner$Block" "SpillPlanner$Block" "endVariable" "I" ∈ GW := gw_in (tb1 (i := 107) rfl) rfl
theorem w1_108 : Cond.soleField "SpillPlanner$Block" "endVariable" ∈ GW := gw_in (tb1 (i := 108) rfl) rfl
theorem w1_109 : Cond.lays "SpillPlanner$Block" "SpillPlanner$Block" "endFirst" "I" ∈ GW := gw_in (tb1 (i := 109) rfl) rfl
theorem w1_110 : Cond.soleField "SpillPlanner$Block" "endFirst" ∈ GW := gw_in (tb1 (i := 110) rfl) rfl
theorem w1_111 : Cond.lays "SpillPlanner$Block" "SpillPlanner$Block" "endSecond" "I" ∈ GW := gw_in (tb1 (i := 111) rfl) rfl
theorem w1_112 : Cond.soleField "SpillPlanner$Block" "endSecond" ∈ GW := gw_in (tb1 (i := 112) rfl) rfl
theorem w1_113 : Cond.lays "SpillPlanner$Block" "SpillPlanner$Block" "frequency" "I" ∈ GW := gw_in (tb1 (i := 113) rfl) rfl
theorem w1_114 : Cond.soleField "SpillPlanner$Block" "frequency" ∈ GW := gw_in (tb1 (i := 114) rfl) rfl
theorem w1_115 : Cond.superclass "SpillPlanner$Block" "java/lang/Object" ∈ GW := gw_in (tb1 (i := 115) rfl) rfl
theorem w1_116 : Cond.arrayClass FieldType.int ∈ GW := gw_in (tb1 (i := 116) rfl) rfl
theorem w1_117 : Cond.fieldLink "SpillPlanner$Program" 11 "SpillPlanner$Program" "blocks" "[LSpillPlanner$Block;" ∈ GW := gw_in (tb1 (i := 117) rfl) rfl
theorem w1_118 : Cond.fieldLink "SpillPlanner" 103 "SpillPlanner$Program" "blocks" "[LSpillPlanner$Block;" ∈ GW := gw_in (tb1 (i := 118) rfl) rfl
theorem w1_119 : Cond.fieldLink "SpillPlanner$LoopFinder" 46 "SpillPlanner$Program" "blocks" "[LSpillPlanner$Block;" ∈ GW := gw_in (tb1 (i := 119) rfl) rfl
theorem w1_120 : Cond.fieldLink "SpillPlanner$Facts" 59 "SpillPlanner$Program" "blocks" "[LSpillPlanner$Block;" ∈ GW := gw_in (tb1 (i := 120) rfl) rfl
theorem w1_121 : Cond.fieldLink "SpillPlanner$Machine" 33 "SpillPlanner$Program" "blocks" "[LSpillPlanner$Block;" ∈ GW := gw_in (tb1 (i := 121) rfl) rfl
theorem w1_122 : Cond.fieldLink "SpillPlanner$Plan" 151 "SpillPlanner$Program" "blocks" "[LSpillPlanner$Block;" ∈ GW := gw_in (tb1 (i := 122) rfl) rfl
theorem w1_123 : Cond.fieldLink "SpillPlanner$Program" 17 "SpillPlanner$Program" "initial" "[I" ∈ GW := gw_in (tb1 (i := 123) rfl) rfl
theorem w1_124 : Cond.fieldLink "SpillPlanner$PlainMachine" 19 "SpillPlanner$Program" "initial" "[I" ∈ GW := gw_in (tb1 (i := 124) rfl) rfl
theorem w1_125 : Cond.fieldLink "SpillPlanner$PlanMachine" 64 "SpillPlanner$Program" "initial" "[I" ∈ GW := gw_in (tb1 (i := 125) rfl) rfl
theorem w1_126 : Cond.fieldLink "SpillPlanner" 143 "SpillPlanner$Program" "initial" "[I" ∈ GW := gw_in (tb1 (i := 126) rfl) rfl
theorem w1_127 : Cond.fieldLink "SpillPlanner$Program" 22 "SpillPlanner$Program" "size" "I" ∈ GW := gw_in (tb1 (i := 127) rfl) rfl
theorem w1_128 : Cond.fieldLink "SpillPlanner$LoopFinder" 30 "SpillPlanner$Program" "size" "I" ∈ GW := gw_in (tb1 (i := 128) rfl) rfl
theorem w1_129 : Cond.fieldLink "SpillPlanner" 83 "SpillPlanner$Program" "size" "I" ∈ GW := gw_in (tb1 (i := 129) rfl) rfl
theorem w1_130 : Cond.fieldLink "SpillPlanner$Facts" 49 "SpillPlanner$Program" "size" "I" ∈ GW := gw_in (tb1 (i := 130) rfl) rfl
theorem w1_131 : Cond.fieldLink "SpillPlanner$Plan" 119 "SpillPlanner$Program" "size" "I" ∈ GW := gw_in (tb1 (i := 131) rfl) rfl
theorem w1_132 : Cond.laysFinal "SpillPlanner$Program" "SpillPlanner$Program" "blocks" "[LSpillPlanner$Block;" ∈ GW := gw_in (tb1 (i := 132) rfl) rfl
theorem w1_133 : Cond.soleField "SpillPlanner$Program" "blocks" ∈ GW := gw_in (tb1 (i := 133) rfl) rfl
theorem w1_134 : Cond.laysFinal "SpillPlanner$Program" "SpillPlanner$Program" "initial" "[I" ∈ GW := gw_in (tb1 (i := 134) rfl) rfl
theorem w1_135 : Cond.soleField "SpillPlanner$Program" "initial" ∈ GW := gw_in (tb1 (i := 135) rfl) rfl
theorem w1_136 : Cond.lays "SpillPlanner$Program" "SpillPlanner$Program" "size" "I" ∈ GW := gw_in (tb1 (i := 136) rfl) rfl
theorem w1_137 : Cond.soleField "SpillPlanner$Program" "size" ∈ GW := gw_in (tb1 (i := 137) rfl) rfl
theorem w1_138 : Cond.superclass "SpillPlanner$Program" "java/lang/Object" ∈ GW := gw_in (tb1 (i := 138) rfl) rfl
theorem w1_139 : Cond.classLink "SpillPlanner" 12 "SpillPlanner$Facts" ∈ GW := gw_in (tb1 (i := 139) rfl) rfl
theorem w1_140 : Cond.instantiable "SpillPlanner$Facts" 7 ∈ GW := gw_in (tb1 (i := 140) rfl) rfl
theorem w1_141 : Cond.methodLink "SpillPlanner" 14 yX1_init ∈ GW := gw_in (tb1 (i := 141) rfl) rfl
theorem w1_142 : Cond.instanceMethod yX1_init ∈ GW := gw_in (tb1 (i := 142) rfl) rfl
theorem w1_143 : Cond.code yX1_init prog_3_method_1_code 2 (Option.none : Option FieldType) ∈ GW := gw_in (tb1 (i := 143) rfl) rfl
theorem w1_144 : Cond.methodLink "SpillPlanner$Facts" 3 (⟨"java/lang/Object", "<init>", "()V"⟩ : MethodName) ∈ GW := gw_in (tb1 (i := 144) rfl) rfl
theorem w1_145 : Cond.fieldLink "SpillPlanner$Facts" 30 "SpillPlanner$Facts" "program" "LSpillPlanner$Program;" ∈ GW := gw_in (tb1 (i := 145) rfl) rfl
theorem w1_146 : Cond.fieldLink "SpillPlanner$Facts" 9 "SpillPlanner$Facts" "liveAt" "[I" ∈ GW := gw_in (tb1 (i := 146) rfl) rfl
theorem w1_147 : Cond.fieldLink "SpillPlanner" 176 "SpillPlanner$Facts" "liveAt" "[I" ∈ GW := gw_in (tb1 (i := 147) rfl) rfl
theorem w1_148 : Cond.fieldLink "SpillPlanner$Facts" 15 "SpillPlanner$Facts" "uses" "[I" ∈ GW := gw_in (tb1 (i := 148) rfl) rfl
theorem w1_149 : Cond.fieldLink "SpillPlanner$Facts" 18 "SpillPlanner$Facts" "definitions" "[I" ∈ GW := gw_in (tb1 (i := 149) rfl) rfl
theorem w1_150 : Cond.fieldLink "SpillPlanner$Facts" 21 "SpillPlanner$Facts" "rivals" "[I" ∈ GW := gw_in (tb1 (i := 150) rfl) rfl
theorem w1_151 : Cond.fieldLink "SpillPlanner$Plan" 57 "SpillPlanner$Facts" "rivals" "[I" ∈ GW := gw_in (tb1 (i := 151) rfl) rfl
theorem w1_152 : Cond.fieldLink "SpillPlanner" 179 "SpillPlanner$Facts" "rivals" "[I" ∈ GW := gw_in (tb1 (i := 152) rfl) rfl
theorem w1_153 : Cond.fieldLink "SpillPlanner$Facts" 24 "SpillPlanner$Facts" "constantDefinitions" "[I" ∈ GW := gw_in (tb1 (i := 153) rfl) rfl
theorem w1_154 : Cond.fieldLink "SpillPlanner$Facts" 27 "SpillPlanner$Facts" "constants" "[I" ∈ GW := gw_in (tb1 (i := 154) rfl) rfl
theorem w1_155 : Cond.fieldLink "SpillPlanner$PlanMachine" 113 "SpillPlanner$Facts" "constants" "[I" ∈ GW := gw_in (tb1 (i := 155) rfl) rfl
theorem w1_156 : Cond.laysFinal "SpillPlanner$Facts" "SpillPlanner$Facts" "program" "LSpillPlanner$Program;" ∈ GW := gw_in (tb1 (i := 156) rfl) rfl
theorem w1_157 : Cond.soleField "SpillPlanner$Facts" "program" ∈ GW := gw_in (tb1 (i := 157) rfl) rfl
theorem w1_158 : Cond.laysFinal "SpillPlanner$Facts" "SpillPlanner$Facts" "liveAt" "[I" ∈ GW := gw_in (tb1 (i := 158) rfl) rfl
theorem w1_159 : Cond.soleField "SpillPlanner$Facts" "liveAt" ∈ GW := gw_in (tb1 (i := 159) rfl) rfl
theorem w1_160 : Cond.laysFinal "SpillPlanner$Facts" "SpillPlanner$Facts" "uses" "[I" ∈ GW := gw_in (tb1 (i := 160) rfl) rfl
theorem w1_161 : Cond.soleField "SpillPlanner$Facts" "uses" ∈ GW := gw_in (tb1 (i := 161) rfl) rfl
theorem w1_162 : Cond.laysFinal "SpillPlanner$Facts" "SpillPlanner$Facts" "definitions" "[I" ∈ GW := gw_in (tb1 (i := 162) rfl) rfl
theorem w1_163 : Cond.soleField "SpillPlanner$Facts" "definitions" ∈ GW := gw_in (tb1 (i := 163) rfl) rfl
theorem w1_164 : Cond.laysFinal "SpillPlanner$Facts" "SpillPlanner$Facts" "rivals" "[I" ∈ GW := gw_in (tb1 (i := 164) rfl) rfl
theorem w1_165 : Cond.soleField "SpillPlanner$Facts" "rivals" ∈ GW := gw_in (tb1 (i := 165) rfl) rfl
theorem w1_166 : Cond.laysFinal "SpillPlanner$Facts" "SpillPlanner$Facts" "constantDefinitions" "[I" ∈ GW := gw_in (tb1 (i := 166) rfl) rfl
theorem w1_167 : Cond.soleField "SpillPlanner$Facts" "constantDefinitions" ∈ GW := gw_in (tb1 (i := 167) rfl) rfl
theorem w1_168 : Cond.laysFinal "SpillPlanner$Facts" "SpillPlanner$Facts" "constants" "[I" ∈ GW := gw_in (tb1 (i := 168) rfl) rfl
theorem w1_169 : Cond.soleField "SpillPlanner$Facts" "constants" ∈ GW := gw_in (tb1 (i := 169) rfl) rfl
theorem w1_170 : Cond.superclass "SpillPlanner$Facts" "java/lang/Object" ∈ GW := gw_in (tb1 (i := 170) rfl) rfl
theorem w1_171 : Cond.classLink "SpillPlanner" 17 "SpillPlanner$LoopFinder" ∈ GW := gw_in (tb1 (i := 171) rfl) rfl
theorem w1_172 : Cond.instantiable "SpillPlanner$LoopFinder" 4 ∈ GW := gw_in (tb1 (i := 172) rfl) rfl
theorem w1_173 : Cond.methodLink "SpillPlanner" 19 yX2_init ∈ GW := gw_in (tb1 (i := 173) rfl) rfl
theorem w1_174 : Cond.instanceMethod yX2_init ∈ GW := gw_in (tb1 (i := 174) rfl) rfl
theorem w1_175 : Cond.code yX2_init prog_4_method_1_code 2 (Option.none : Option FieldType) ∈ GW := gw_in (tb1 (i := 175) rfl) rfl
theorem w1_176 : Cond.methodLink "SpillPlanner$LoopFinder" 3 (⟨"java/lang/Object", "<init>", "()V"⟩ : MethodName) ∈ GW := gw_in (tb1 (i := 176) rfl) rfl
theorem w1_177 : Cond.fieldLink "SpillPlanner$LoopFinder" 18 "SpillPlanner$LoopFinder" "program" "LSpillPlanner$Program;" ∈ GW := gw_in (tb1 (i := 177) rfl) rfl
theorem w1_178 : Cond.fieldLink "SpillPlanner$LoopFinder" 9 "SpillPlanner$LoopFinder" "headers" "[I" ∈ GW := gw_in (tb1 (i := 178) rfl) rfl
theorem w1_179 : Cond.fieldLink "SpillPlanner$PlanMachine" 89 "SpillPlanner$LoopFinder" "headers" "[I" ∈ GW := gw_in (tb1 (i := 179) rfl) rfl
theorem w1_180 : Cond.fieldLink "SpillPlanner$Plan" 155 "SpillPlanner$LoopFinder" "headers" "[I" ∈ GW := gw_in (tb1 (i := 180) rfl) rfl
theorem w1_181 : Cond.fieldLink "SpillPlanner" 192 "SpillPlanner$LoopFinder" "headers" "[I" ∈ GW := gw_in (tb1 (i := 181) rfl) rfl
theorem w1_182 : Cond.fieldLink "SpillPlanner$LoopFinder" 15 "SpillPlanner$LoopFinder" "members" "[I" ∈ GW := gw_in (tb1 (i := 182) rfl) rfl
theorem w1_183 : Cond.fieldLink "SpillPlanner" 195 "SpillPlanner$LoopFinder" "members" "[I" ∈ GW := gw_in (tb1 (i := 183) rfl) rfl
theorem w1_184 : Cond.fieldLink "SpillPlanner$Plan" 189 "SpillPlanner$LoopFinder" "members" "[I" ∈ GW := gw_in (tb1 (i := 184) rfl) rfl
theorem w1_185 : Cond.fieldLink "SpillPlanner$LoopFinder" 22 "SpillPlanner$LoopFinder" "count" "I" ∈ GW := gw_in (tb1 (i := 185) rfl) rfl
theorem w1_186 : Cond.fieldLink "SpillPlanner$PlanMachine" 76 "SpillPlanner$LoopFinder" "count" "I" ∈ GW := gw_in (tb1 (i := 186) rfl) rfl
theorem w1_187 : Cond.fieldLink "SpillPlanner$Plan" 114 "SpillPlanner$LoopFinder" "count" "I" ∈ GW := gw_in (tb1 (i := 187) rfl) rfl
theorem w1_188 : Cond.fieldLink "SpillPlanner" 186 "SpillPlanner$LoopFinder" "count" "I" ∈ GW := gw_in (tb1 (i := 188) rfl) rfl
theorem w1_189 : Cond.laysFinal "SpillPlanner$LoopFinder" "SpillPlanner$LoopFinder" "program" "LSpillPlanner$Program;" ∈ GW := gw_in (tb1 (i := 189) rfl) rfl
theorem w1_190 : Cond.soleField "SpillPlanner$LoopFinder" "program" ∈ GW := gw_in (tb1 (i := 190) rfl) rfl
theorem w1_191 : Cond.laysFinal "SpillPlanner$LoopFinder" "SpillPlanner$LoopFinder" "headers" "[I" ∈ GW := gw_in (tb1 (i := 191) rfl) rfl
theorem w1_192 : Cond.soleField "SpillPlanner$LoopFinder" "headers" ∈ GW := gw_in (tb1 (i := 192) rfl) rfl
theorem w1_193 : Cond.laysFinal "SpillPlanner$LoopFinder" "SpillPlanner$LoopFinder" "members" "[I" ∈ GW := gw_in (tb1 (i := 193) rfl) rfl
theorem w1_194 : Cond.soleField "SpillPlanner$LoopFinder" "members" ∈ GW := gw_in (tb1 (i := 194) rfl) rfl
theorem w1_195 : Cond.lays "SpillPlanner$LoopFinder" "SpillPlanner$LoopFinder" "count" "I" ∈ GW := gw_in (tb1 (i := 195) rfl) rfl
theorem w1_196 : Cond.soleField "SpillPlanner$LoopFinder" "count" ∈ GW := gw_in (tb1 (i := 196) rfl) rfl
theorem w1_197 : Cond.superclass "SpillPlanner$LoopFinder" "java/lang/Object" ∈ GW := gw_in (tb1 (i := 197) rfl) rfl
theorem w1_198 : Cond.classLink "SpillPlanner" 20 "SpillPlanner$Plan" ∈ GW := gw_in (tb1 (i := 198) rfl) rfl
theorem w1_199 : Cond.instantiable "SpillPlanner$Plan" 13 ∈ GW := gw_in (tb1 (i := 199) rfl) rfl
theorem w1_200 : Cond.methodLink "SpillPlanner" 22 yX5_init ∈ GW := gw_in (tb1 (i := 200) rfl) rfl
theorem w1_201 : Cond.instanceMethod yX5_init ∈ GW := gw_in (tb1 (i := 201) rfl) rfl
theorem w1_202 : Cond.code yX5_init prog_7_method_1_code 4 (Option.none : Option FieldType) ∈ GW := gw_in (tb1 (i := 202) rfl) rfl
theorem w1_203 : Cond.methodLink "SpillPlanner$Plan" 3 (⟨"java/lang/Object", "<init>", "()V"⟩ : MethodName) ∈ GW := gw_in (tb1 (i := 203) rfl) rfl
theorem w1_204 : Cond.fieldLink "SpillPlanner$Plan" 30 "SpillPlanner$Plan" "program" "LSpillPlanner$Program;" ∈ GW := gw_in (tb1 (i := 204) rfl) rfl
theorem w1_205 : Cond.fieldLink "SpillPlanner$Plan" 34 "SpillPlanner$Plan" "facts" "LSpillPlanner$Facts;" ∈ GW := gw_in (tb1 (i := 205) rfl) rfl
theorem w1_206 : Cond.fieldLink "SpillPlanner$PlanMachine" 34 "SpillPlanner$Plan" "facts" "LSpillPlanner$Facts;" ∈ GW := gw_in (tb1 (i := 206) rfl) rfl
theorem w1_207 : Cond.fieldLink "SpillPlanner$Plan" 38 "SpillPlanner$Plan" "loopFinder" "LSpillPlanner$LoopFinder;" ∈ GW := gw_in (tb1 (i := 207) rfl) rfl
theorem w1_208 : Cond.fieldLink "SpillPlanner$PlanMachine" 72 "SpillPlanner$Plan" "loopFinder" "LSpillPlanner$LoopFinder;" ∈ GW := gw_in (tb1 (i := 208) rfl) rfl
theorem w1_209 : Cond.fieldLink "SpillPlanner$Plan" 9 "SpillPlanner$Plan" "places" "[I" ∈ GW := gw_in (tb1 (i := 209) rfl) rfl
theorem w1_210 : Cond.fieldLink "SpillPlanner$PlanMachine" 54 "SpillPlanner$Plan" "places" "[I" ∈ GW := gw_in (tb1 (i := 210) rfl) rfl
theorem w1_211 : Cond.fieldLink "SpillPlanner" 237 "SpillPlanner$Plan" "places" "[I" ∈ GW := gw_in (tb1 (i := 211) rfl) rfl
theorem w1_212 : Cond.fieldLink "SpillPlanner$Plan" 15 "SpillPlanner$Plan" "colours" "[I" ∈ GW := gw_in (tb1 (i := 212) rfl) rfl
theorem w1_213 : Cond.fieldLink "SpillPlanner$PlanMachine" 57 "SpillPlanner$Plan" "colours" "[I" ∈ GW := gw_in (tb1 (i := 213) rfl) rfl
theorem w1_214 : Cond.fieldLink "SpillPlanner" 240 "SpillPlanner$Plan" "colours" "[I" ∈ GW := gw_in (tb1 (i := 214) rfl) rfl
theorem w1_215 : Cond.fieldLink "SpillPlanner$Plan" 18 "SpillPlanner$Plan" "slots" "[I" ∈ GW := gw_in (tb1 (i := 215) rfl) rfl
theorem w1_216 : Cond.fieldLink "SpillPlanner$PlanMachine" 69 "SpillPlanner$Plan" "slots" "[I" ∈ GW := gw_in (tb1 (i := 216) rfl) rfl
theorem w1_217 : Cond.fieldLink "SpillPlanner" 243 "SpillPlanner$Plan" "slots" "[I" ∈ GW := gw_in (tb1 (i := 217) rfl) rfl
theorem w1_218 : Cond.fieldLink "SpillPlanner$Plan" 21 "SpillPlanner$Plan" "loopColours" "[I" ∈ GW := gw_in (tb1 (i := 218) rfl) rfl
theorem w1_219 : Cond.fieldLink "SpillPlanner$PlanMachine" 101 "SpillPlanner$Plan" "loopColours" "[I" ∈ GW := gw_in (tb1 (i := 219) rfl) rfl
theorem w1_220 : Cond.fieldLink "SpillPlanner" 246 "SpillPlanner$Plan" "loopColours" "[I" ∈ GW := gw_in (tb1 (i := 220) rfl) rfl
theorem w1_221 : Cond.fieldLink "SpillPlanner$Plan" 24 "SpillPlanner$Plan" "presentIn" "[I" ∈ GW := gw_in (tb1 (i := 221) rfl) rfl
theorem w1_222 : Cond.fieldLink "SpillPlanner$Plan" 27 "SpillPlanner$Plan" "definedIn" "[I" ∈ GW := gw_in (tb1 (i := 222) rfl) rfl
theorem w1_223 : Cond.fieldLink "SpillPlanner$PlanMachine" 98 "SpillPlanner$Plan" "definedIn" "[I" ∈ GW := gw_in (tb1 (i := 223) rfl) rfl
theorem w1_224 : Cond.fieldLink "SpillPlanner$Plan" 42 "SpillPlanner$Plan" "registers" "I" ∈ GW := gw_in (tb1 (i := 224) rfl) rfl
theorem w1_225 : Cond.fieldLink "SpillPlanner" 253 "SpillPlanner$Plan" "registers" "I" ∈ GW := gw_in (tb1 (i := 225) rfl) rfl
theorem w1_226 : Cond.fieldLink "SpillPlanner$Plan" 141 "SpillPlanner$Plan" "promotions" "I" ∈ GW := gw_in (tb1 (i := 226) rfl) rfl
theorem w1_227 : Cond.fieldLink "SpillPlanner" 259 "SpillPlanner$Plan" "promotions" "I" ∈ GW := gw_in (tb1 (i := 227) rfl) rfl
theorem w1_228 : Cond.fieldLink "SpillPlanner$Plan" 111 "SpillPlanner$Plan" "gains" "I" ∈ GW := gw_in (tb1 (i := 228) rfl) rfl
theorem w1_229 : Cond.fieldLink "SpillPlanner$Plan" 46 "SpillPlanner$Plan" "mayRecompute" "Z" ∈ GW := gw_in (tb1 (i := 229) rfl) rfl
theorem w1_230 : Cond.laysFinal "SpillPlanner$Plan" "SpillPlanner$Plan" "program" "LSpillPlanner$Program;" ∈ GW := gw_in (tb1 (i := 230) rfl) rfl
theorem w1_231 : Cond.soleField "SpillPlanner$Plan" "program" ∈ GW := gw_in (tb1 (i := 231) rfl) rfl
theorem w1_232 : Cond.laysFinal "SpillPlanner$Plan" "SpillPlanner$Plan" "facts" "LSpillPlanner$Facts;" ∈ GW := gw_in (tb1 (i := 232) rfl) rfl
theorem w1_233 : Cond.soleField "SpillPlanner$Plan" "facts" ∈ GW := gw_in (tb1 (i := 233) rfl) rfl
theorem w1_234 : Cond.laysFinal "SpillPlanner$Plan" "SpillPlanner$Plan" "loopFinder" "LSpillPlanner$LoopFinder;" ∈ GW := gw_in (tb1 (i := 234) rfl) rfl
theorem w1_235 : Cond.soleField "SpillPlanner$Plan" "loopFinder" ∈ GW := gw_in (tb1 (i := 235) rfl) rfl
theorem w1_236 : Cond.laysFinal "SpillPlanner$Plan" "SpillPlanner$Plan" "places" "[I" ∈ GW := gw_in (tb1 (i := 236) rfl) rfl
theorem w1_237 : Cond.soleField "SpillPlanner$Plan" "places" ∈ GW := gw_in (tb1 (i := 237) rfl) rfl
theorem w1_238 : Cond.laysFinal "SpillPlanner$Plan" "SpillPlanner$Plan" "colours" "[I" ∈ GW := gw_in (tb1 (i := 238) rfl) rfl
theorem w1_239 : Cond.soleField "SpillPlanner$Plan" "colours" ∈ GW := gw_in (tb1 (i := 239) rfl) rfl
theorem w2_0 : Cond.laysFinal "SpillPlanner$Plan" "SpillPlanner$Plan" "slots" "[I" ∈ GW := gw_in (tb2 (i := 0) rfl) rfl
theorem w2_1 : Cond.soleField "SpillPlanner$Plan" "slots" ∈ GW := gw_in (tb2 (i := 1) rfl) rfl
theorem w2_2 : Cond.laysFinal "SpillPlanner$Plan" "SpillPlanner$Plan" "loopColours" "[I" ∈ GW := gw_in (tb2 (i := 2) rfl) rfl
theorem w2_3 : Cond.soleField "SpillPlanner$Plan" "loopColours" ∈ GW := gw_in (tb2 (i := 3) rfl) rfl
theorem w2_4 : Cond.laysFinal "SpillPlanner$Plan" "SpillPlanner$Plan" "presentIn" "[I" ∈ GW := gw_in (tb2 (i := 4) rfl) rfl
theorem w2_5 : Cond.soleField "SpillPlanner$Plan" "presentIn" ∈ GW := gw_in (tb2 (i := 5) rfl) rfl
theorem w2_6 : Cond.laysFinal "SpillPlanner$Plan" "SpillPlanner$Plan" "definedIn" "[I" ∈ GW := gw_in (tb2 (i := 6) rfl) rfl
theorem w2_7 : Cond.soleField "SpillPlanner$Plan" "definedIn" ∈ GW := gw_in (tb2 (i := 7) rfl) rfl
theorem w2_8 : Cond.lays "SpillPlanner$Plan" "SpillPlanner$Plan" "registers" "I" ∈ GW := gw_in (tb2 (i := 8) rfl) rfl
theorem w2_9 : Cond.soleField "SpillPlanner$Plan" "registers" ∈ GW := gw_in (tb2 (i := 9) rfl) rfl
theorem w2_10 : Cond.lays "SpillPlanner$Plan" "SpillPlanner$Plan" "promotions" "I" ∈ GW := gw_in (tb2 (i := 10) rfl) rfl
theorem w2_11 : Cond.soleField "SpillPlanner$Plan" "promotions" ∈ GW := gw_in (tb2 (i := 11) rfl) rfl
theorem w2_12 : Cond.lays "SpillPlanner$Plan" "SpillPlanner$Plan" "gains" "I" ∈ GW := gw_in (tb2 (i := 12) rfl) rfl
theorem w2_13 : Cond.soleField "SpillPlanner$Plan" "gains" ∈ GW := gw_in (tb2 (i := 13) rfl) rfl
theorem w2_14 : Cond.lays "SpillPlanner$Plan" "SpillPlanner$Plan" "mayRecompute" "Z" ∈ GW := gw_in (tb2 (i := 14) rfl) rfl
theorem w2_15 : Cond.soleField "SpillPlanner$Plan" "mayRecompute" ∈ GW := gw_in (tb2 (i := 15) rfl) rfl
theorem w2_16 : Cond.superclass "SpillPlanner$Plan" "java/lang/Object" ∈ GW := gw_in (tb2 (i := 16) rfl) rfl
theorem w2_17 : Cond.classLink "SpillPlanner" 44 "SpillPlanner$PlainMachine" ∈ GW := gw_in (tb2 (i := 17) rfl) rfl
theorem w2_18 : Cond.instantiable "SpillPlanner$PlainMachine" 9 ∈ GW := gw_in (tb2 (i := 18) rfl) rfl
theorem w2_19 : Cond.methodLink "SpillPlanner" 46 yX4_init ∈ GW := gw_in (tb2 (i := 19) rfl) rfl
theorem w2_20 : Cond.instanceMethod yX4_init ∈ GW := gw_in (tb2 (i := 20) rfl) rfl
theorem w2_21 : Cond.code yX4_init prog_6_method_1_code 2 (Option.none : Option FieldType) ∈ GW := gw_in (tb2 (i := 21) rfl) rfl
theorem w2_22 : Cond.methodLink "SpillPlanner$PlainMachine" 3 yX3_init ∈ GW := gw_in (tb2 (i := 22) rfl) rfl
theorem w2_23 : Cond.instanceMethod yX3_init ∈ GW := gw_in (tb2 (i := 23) rfl) rfl
theorem w2_24 : Cond.code yX3_init prog_5_method_1_code 2 (Option.none : Option FieldType) ∈ GW := gw_in (tb2 (i := 24) rfl) rfl
theorem w2_25 : Cond.methodLink "SpillPlanner$Machine" 3 (⟨"java/lang/Object", "<init>", "()V"⟩ : MethodName) ∈ GW := gw_in (tb2 (i := 25) rfl) rfl
theorem w2_26 : Cond.fieldLink "SpillPlanner$PlainMachine" 9 "SpillPlanner$PlainMachine" "values" "[I" ∈ GW := gw_in (tb2 (i := 26) rfl) rfl
theorem w2_27 : Cond.fieldLink "SpillPlanner$Machine" 15 "SpillPlanner$Machine" "program" "LSpillPlanner$Program;" ∈ GW := gw_in (tb2 (i := 27) rfl) rfl
theorem w2_28 : Cond.fieldLink "SpillPlanner$PlainMachine" 15 "SpillPlanner$PlainMachine" "program" "LSpillPlanner$Program;" ∈ GW := gw_in (tb2 (i := 28) rfl) rfl
theorem w2_29 : Cond.sameField "SpillPlanner$PlainMachine" "SpillPlanner$Machine" "program" "LSpillPlanner$Program;" ∈ GW := gw_in (tb2 (i := 29) rfl) rfl
theorem w2_30 : Cond.fieldLink "SpillPlanner$PlanMachine" 60 "SpillPlanner$PlanMachine" "program" "LSpillPlanner$Program;" ∈ GW := gw_in (tb2 (i := 30) rfl) rfl
theorem w2_31 : Cond.sameField "SpillPlanner$PlanMachine" "SpillPlanner$Machine" "program" "LSpillPlanner$Program;" ∈ GW := gw_in (tb2 (i := 31) rfl) rfl
theorem w2_32 : Cond.fieldLink "SpillPlanner$Machine" 9 "SpillPlanner$Machine" "entered" "[I" ∈ GW := gw_in (tb2 (i := 32) rfl) rfl
theorem w2_33 : Cond.fieldLink "SpillPlanner" 351 "SpillPlanner$Machine" "entered" "[I" ∈ GW := gw_in (tb2 (i := 33) rfl) rfl
theorem w2_34 : Cond.fieldLink "SpillPlanner$Machine" 39 "SpillPlanner$Machine" "here" "I" ∈ GW := gw_in (tb2 (i := 34) rfl) rfl
theorem w2_35 : Cond.fieldLink "SpillPlanner$PlanMachine" 116 "SpillPlanner$PlanMachine" "here" "I" ∈ GW := gw_in (tb2 (i := 35) rfl) rfl
theorem w2_36 : Cond.sameField "SpillPlanner$PlanMachine" "SpillPlanner$Machine" "here" "I" ∈ GW := gw_in (tb2 (i := 36) rfl) rfl
theorem w2_37 : Cond.fieldLink "SpillPlanner$Machine" 29 "SpillPlanner$Machine" "steps" "I" ∈ GW := gw_in (tb2 (i := 37) rfl) rfl
theorem w2_38 : Cond.fieldLink "SpillPlanner" 339 "SpillPlanner$Machine" "steps" "I" ∈ GW := gw_in (tb2 (i := 38) rfl) rfl
theorem w2_39 : Cond.fieldLink "SpillPlanner$PlanMachine" 107 "SpillPlanner$PlanMachine" "loads" "I" ∈ GW := gw_in (tb2 (i := 39) rfl) rfl
theorem w2_40 : Cond.sameField "SpillPlanner$PlanMachine" "SpillPlanner$Machine" "loads" "I" ∈ GW := gw_in (tb2 (i := 40) rfl) rfl
theorem w2_41 : Cond.fieldLink "SpillPlanner$Machine" 80 "SpillPlanner$Machine" "loads" "I" ∈ GW := gw_in (tb2 (i := 41) rfl) rfl
theorem w2_42 : Cond.fieldLink "SpillPlanner" 342 "SpillPlanner$Machine" "loads" "I" ∈ GW := gw_in (tb2 (i := 42) rfl) rfl
theorem w2_43 : Cond.fieldLink "SpillPlanner$PlanMachine" 104 "SpillPlanner$PlanMachine" "stores" "I" ∈ GW := gw_in (tb2 (i := 43) rfl) rfl
theorem w2_44 : Cond.sameField "SpillPlanner$PlanMachine" "SpillPlanner$Machine" "stores" "I" ∈ GW := gw_in (tb2 (i := 44) rfl) rfl
theorem w2_45 : Cond.fieldLink "SpillPlanner$Machine" 83 "SpillPlanner$Machine" "stores" "I" ∈ GW := gw_in (tb2 (i := 45) rfl) rfl
theorem w2_46 : Cond.fieldLink "SpillPlanner" 345 "SpillPlanner$Machine" "stores" "I" ∈ GW := gw_in (tb2 (i := 46) rfl) rfl
theorem w2_47 : Cond.fieldLink "SpillPlanner$PlanMachine" 110 "SpillPlanner$PlanMachine" "recomputations" "I" ∈ GW := gw_in (tb2 (i := 47) rfl) rfl
theorem w2_48 : Cond.sameField "SpillPlanner$PlanMachine" "SpillPlanner$Machine" "recomputations" "I" ∈ GW := gw_in (tb2 (i := 48) rfl) rfl
theorem w2_49 : Cond.fieldLink "SpillPlanner$Machine" 86 "SpillPlanner$Machine" "recomputations" "I" ∈ GW := gw_in (tb2 (i := 49) rfl) rfl
theorem w2_50 : Cond.fieldLink "SpillPlanner" 348 "SpillPlanner$Machine" "recomputations" "I" ∈ GW := gw_in (tb2 (i := 50) rfl) rfl
theorem w2_51 : Cond.fieldLink "SpillPlanner$Machine" 67 "SpillPlanner$Machine" "result" "I" ∈ GW := gw_in (tb2 (i := 51) rfl) rfl
theorem w2_52 : Cond.fieldLink "SpillPlanner" 360 "SpillPlanner$Machine" "result" "I" ∈ GW := gw_in (tb2 (i := 52) rfl) rfl
theorem w2_53 : Cond.laysFinal "SpillPlanner$PlainMachine" "SpillPlanner$PlainMachine" "values" "[I" ∈ GW := gw_in (tb2 (i := 53) rfl) rfl
theorem w2_54 : Cond.soleField "SpillPlanner$PlainMachine" "values" ∈ GW := gw_in (tb2 (i := 54) rfl) rfl
theorem w2_55 : Cond.laysFinal "SpillPlanner$PlainMachine" "SpillPlanner$Machine" "program" "LSpillPlanner$Program;" ∈ GW := gw_in (tb2 (i := 55) rfl) rfl
theorem w2_56 : Cond.soleField "SpillPlanner$Machine" "program" ∈ GW := gw_in (tb2 (i := 56) rfl) rfl
theorem w2_57 : Cond.laysFinal "SpillPlanner$PlainMachine" "SpillPlanner$Machine" "entered" "[I" ∈ GW := gw_in (tb2 (i := 57) rfl) rfl
theorem w2_58 : Cond.soleField "SpillPlanner$Machine" "entered" ∈ GW := gw_in (tb2 (i := 58) rfl) rfl
theorem w2_59 : Cond.lays "SpillPlanner$PlainMachine" "SpillPlanner$Machine" "here" "I" ∈ GW := gw_in (tb2 (i := 59) rfl) rfl
theorem w2_60 : Cond.soleField "SpillPlanner$Machine" "here" ∈ GW := gw_in (tb2 (i := 60) rfl) rfl
theorem w2_61 : Cond.lays "SpillPlanner$PlainMachine" "SpillPlanner$Machine" "steps" "I" ∈ GW := gw_in (tb2 (i := 61) rfl) rfl
theorem w2_62 : Cond.soleField "SpillPlanner$Machine" "steps" ∈ GW := gw_in (tb2 (i := 62) rfl) rfl
theorem w2_63 : Cond.lays "SpillPlanner$PlainMachine" "SpillPlanner$Machine" "loads" "I" ∈ GW := gw_in (tb2 (i := 63) rfl) rfl
theorem w2_64 : Cond.soleField "SpillPlanner$Machine" "loads" ∈ GW := gw_in (tb2 (i := 64) rfl) rfl
theorem w2_65 : Cond.lays "SpillPlanner$PlainMachine" "SpillPlanner$Machine" "stores" "I" ∈ GW := gw_in (tb2 (i := 65) rfl) rfl
theorem w2_66 : Cond.soleField "SpillPlanner$Machine" "stores" ∈ GW := gw_in (tb2 (i := 66) rfl) rfl
theorem w2_67 : Cond.lays "SpillPlanner$PlainMachine" "SpillPlanner$Machine" "recomputations" "I" ∈ GW := gw_in (tb2 (i := 67) rfl) rfl
theorem w2_68 : Cond.soleField "SpillPlanner$Machine" "recomputations" ∈ GW := gw_in (tb2 (i := 68) rfl) rfl
theorem w2_69 : Cond.lays "SpillPlanner$PlainMachine" "SpillPlanner$Machine" "result" "I" ∈ GW := gw_in (tb2 (i := 69) rfl) rfl
theorem w2_70 : Cond.soleField "SpillPlanner$Machine" "result" ∈ GW := gw_in (tb2 (i := 70) rfl) rfl
theorem w2_71 : Cond.superclass "SpillPlanner$PlainMachine" "SpillPlanner$Machine" ∈ GW := gw_in (tb2 (i := 71) rfl) rfl
theorem w2_72 : Cond.classLink "SpillPlanner" 51 "SpillPlanner$PlanMachine" ∈ GW := gw_in (tb2 (i := 72) rfl) rfl
theorem w2_73 : Cond.instantiable "SpillPlanner$PlanMachine" 14 ∈ GW := gw_in (tb2 (i := 73) rfl) rfl
theorem w2_74 : Cond.methodLink "SpillPlanner" 53 yX6_init ∈ GW := gw_in (tb2 (i := 74) rfl) rfl
theorem w2_75 : Cond.instanceMethod yX6_init ∈ GW := gw_in (tb2 (i := 75) rfl) rfl
theorem w2_76 : Cond.code yX6_init prog_8_method_1_code 3 (Option.none : Option FieldType) ∈ GW := gw_in (tb2 (i := 76) rfl) rfl
theorem w2_77 : Cond.methodLink "SpillPlanner$PlanMachine" 3 yX3_init ∈ GW := gw_in (tb2 (i := 77) rfl) rfl
theorem w2_78 : Cond.fieldLink "SpillPlanner$PlanMachine" 24 "SpillPlanner$PlanMachine" "plan" "LSpillPlanner$Plan;" ∈ GW := gw_in (tb2 (i := 78) rfl) rfl
theorem w2_79 : Cond.fieldLink "SpillPlanner$PlanMachine" 9 "SpillPlanner$PlanMachine" "registers" "[I" ∈ GW := gw_in (tb2 (i := 79) rfl) rfl
theorem w2_80 : Cond.fieldLink "SpillPlanner$PlanMachine" 15 "SpillPlanner$PlanMachine" "memory" "[I" ∈ GW := gw_in (tb2 (i := 80) rfl) rfl
theorem w2_81 : Cond.fieldLink "SpillPlanner$PlanMachine" 18 "SpillPlanner$PlanMachine" "scratch" "[I" ∈ GW := gw_in (tb2 (i := 81) rfl) rfl
theorem w2_82 : Cond.fieldLink "SpillPlanner$PlanMachine" 21 "SpillPlanner$PlanMachine" "held" "[I" ∈ GW := gw_in (tb2 (i := 82) rfl) rfl
theorem w2_83 : Cond.fieldLink "SpillPlanner$PlanMachine" 95 "SpillPlanner$PlanMachine" "recent" "I" ∈ GW := gw_in (tb2 (i := 83) rfl) rfl
theorem w2_84 : Cond.laysFinal "SpillPlanner$PlanMachine" "SpillPlanner$PlanMachine" "plan" "LSpillPlanner$Plan;" ∈ GW := gw_in (tb2 (i := 84) rfl) rfl
theorem w2_85 : Cond.soleField "SpillPlanner$PlanMachine" "plan" ∈ GW := gw_in (tb2 (i := 85) rfl) rfl
theorem w2_86 : Cond.laysFinal "SpillPlanner$PlanMachine" "SpillPlanner$PlanMachine" "registers" "[I" ∈ GW := gw_in (tb2 (i := 86) rfl) rfl
theorem w2_87 : Cond.soleField "SpillPlanner$PlanMachine" "registers" ∈ GW := gw_in (tb2 (i := 87) rfl) rfl
theorem w2_88 : Cond.laysFinal "SpillPlanner$PlanMachine" "SpillPlanner$PlanMachine" "memory" "[I" ∈ GW := gw_in (tb2 (i := 88) rfl) rfl
theorem w2_89 : Cond.soleField "SpillPlanner$PlanMachine" "memory" ∈ GW := gw_in (tb2 (i := 89) rfl) rfl
theorem w2_90 : Cond.laysFinal "SpillPlanner$PlanMachine" "SpillPlanner$PlanMachine" "scratch" "[I" ∈ GW := gw_in (tb2 (i := 90) rfl) rfl
theorem w2_91 : Cond.soleField "SpillPlanner$PlanMachine" "scratch" ∈ GW := gw_in (tb2 (i := 91) rfl) rfl
theorem w2_92 : Cond.laysFinal "SpillPlanner$PlanMachine" "SpillPlanner$PlanMachine" "held" "[I" ∈ GW := gw_in (tb2 (i := 92) rfl) rfl
theorem w2_93 : Cond.soleField "SpillPlanner$PlanMachine" "held" ∈ GW := gw_in (tb2 (i := 93) rfl) rfl
theorem w2_94 : Cond.lays "SpillPlanner$PlanMachine" "SpillPlanner$PlanMachine" "recent" "I" ∈ GW := gw_in (tb2 (i := 94) rfl) rfl
theorem w2_95 : Cond.soleField "SpillPlanner$PlanMachine" "recent" ∈ GW := gw_in (tb2 (i := 95) rfl) rfl
theorem w2_96 : Cond.laysFinal "SpillPlanner$PlanMachine" "SpillPlanner$Machine" "program" "LSpillPlanner$Program;" ∈ GW := gw_in (tb2 (i := 96) rfl) rfl
theorem w2_97 : Cond.laysFinal "SpillPlanner$PlanMachine" "SpillPlanner$Machine" "entered" "[I" ∈ GW := gw_in (tb2 (i := 97) rfl) rfl
theorem w2_98 : Cond.lays "SpillPlanner$PlanMachine" "SpillPlanner$Machine" "here" "I" ∈ GW := gw_in (tb2 (i := 98) rfl) rfl
theorem w2_99 : Cond.lays "SpillPlanner$PlanMachine" "SpillPlanner$Machine" "steps" "I" ∈ GW := gw_in (tb2 (i := 99) rfl) rfl
theorem w2_100 : Cond.lays "SpillPlanner$PlanMachine" "SpillPlanner$Machine" "loads" "I" ∈ GW := gw_in (tb2 (i := 100) rfl) rfl
theorem w2_101 : Cond.lays "SpillPlanner$PlanMachine" "SpillPlanner$Machine" "stores" "I" ∈ GW := gw_in (tb2 (i := 101) rfl) rfl
theorem w2_102 : Cond.lays "SpillPlanner$PlanMachine" "SpillPlanner$Machine" "recomputations" "I" ∈ GW := gw_in (tb2 (i := 102) rfl) rfl
theorem w2_103 : Cond.lays "SpillPlanner$PlanMachine" "SpillPlanner$Machine" "result" "I" ∈ GW := gw_in (tb2 (i := 103) rfl) rfl
theorem w2_104 : Cond.superclass "SpillPlanner$PlanMachine" "SpillPlanner$Machine" ∈ GW := gw_in (tb2 (i := 104) rfl) rfl
theorem w2_105 : Cond.classLink "SpillPlanner" 59 "SpillPlanner$Reader" ∈ GW := gw_in (tb2 (i := 105) rfl) rfl
theorem w2_106 : Cond.instantiable "SpillPlanner$Reader" 5 ∈ GW := gw_in (tb2 (i := 106) rfl) rfl
theorem w2_107 : Cond.methodLinkNest "SpillPlanner" 61 yX8_init "SpillPlanner" ∈ NW := List.mem_filter.mpr ⟨tb2 (i := 107) rfl, rfl⟩
theorem w2_108 : Cond.instanceMethod yX8_init ∈ GW := gw_in (tb2 (i := 108) rfl) rfl
theorem w2_109 : Cond.code yX8_init prog_10_method_1_code 1 (Option.none : Option FieldType) ∈ GW := gw_in (tb2 (i := 109) rfl) rfl
theorem w2_110 : Cond.methodLink "SpillPlanner$Reader" 3 (⟨"java/lang/Object", "<init>", "()V"⟩ : MethodName) ∈ GW := gw_in (tb2 (i := 110) rfl) rfl
theorem w2_111 : Cond.classLink "SpillPlanner$Reader" 15 "SpillPlanner$Block" ∈ GW := gw_in (tb2 (i := 111) rfl) rfl
theorem w2_112 : Cond.methodLink "SpillPlanner$Reader" 17 yX0_init ∈ GW := gw_in (tb2 (i := 112) rfl) rfl
theorem w2_113 : Cond.fieldLink "SpillPlanner$Reader" 9 "SpillPlanner$Reader" "input" "[C" ∈ GW := gw_in (tb2 (i := 113) rfl) rfl
theorem w2_114 : Cond.fieldLink "SpillPlanner" 296 "SpillPlanner$Reader" "input" "[C" ∈ GW := gw_in (tb2 (i := 114) rfl) rfl
theorem w2_115 : Cond.fieldLink "SpillPlanner$Reader" 18 "SpillPlanner$Reader" "draft" "LSpillPlanner$Block;" ∈ GW := gw_in (tb2 (i := 115) rfl) rfl
theorem w2_116 : Cond.fieldLink "SpillPlanner" 306 "SpillPlanner$Reader" "draft" "LSpillPlanner$Block;" ∈ GW := gw_in (tb2 (i := 116) rfl) rfl
theorem w2_117 : Cond.fieldLink "SpillPlanner$Reader" 42 "SpillPlanner$Reader" "length" "I" ∈ GW := gw_in (tb2 (i := 117) rfl) rfl
theorem w2_118 : Cond.fieldLink "SpillPlanner" 291 "SpillPlanner$Reader" "length" "I" ∈ GW := gw_in (tb2 (i := 118) rfl) rfl
theorem w2_119 : Cond.fieldLink "SpillPlanner$Reader" 26 "SpillPlanner$Reader" "at" "I" ∈ GW := gw_in (tb2 (i := 119) rfl) rfl
theorem w2_120 : Cond.fieldLink "SpillPlanner" 303 "SpillPlanner$Reader" "at" "I" ∈ GW := gw_in (tb2 (i := 120) rfl) rfl
theorem w2_121 : Cond.fieldLink "SpillPlanner$Reader" 22 "SpillPlanner$Reader" "blocks" "I" ∈ GW := gw_in (tb2 (i := 121) rfl) rfl
theorem w2_122 : Cond.laysFinal "SpillPlanner$Reader" "SpillPlanner$Reader" "input" "[C" ∈ GW := gw_in (tb2 (i := 122) rfl) rfl
theorem w2_123 : Cond.soleField "SpillPlanner$Reader" "input" ∈ GW := gw_in (tb2 (i := 123) rfl) rfl
theorem w2_124 : Cond.laysFinal "SpillPlanner$Reader" "SpillPlanner$Reader" "draft" "LSpillPlanner$Block;" ∈ GW := gw_in (tb2 (i := 124) rfl) rfl
theorem w2_125 : Cond.soleField "SpillPlanner$Reader" "draft" ∈ GW := gw_in (tb2 (i := 125) rfl) rfl
theorem w2_126 : Cond.lays "SpillPlanner$Reader" "SpillPlanner$Reader" "length" "I" ∈ GW := gw_in (tb2 (i := 126) rfl) rfl
theorem w2_127 : Cond.soleField "SpillPlanner$Reader" "length" ∈ GW := gw_in (tb2 (i := 127) rfl) rfl
theorem w2_128 : Cond.lays "SpillPlanner$Reader" "SpillPlanner$Reader" "at" "I" ∈ GW := gw_in (tb2 (i := 128) rfl) rfl
theorem w2_129 : Cond.soleField "SpillPlanner$Reader" "at" ∈ GW := gw_in (tb2 (i := 129) rfl) rfl
theorem w2_130 : Cond.lays "SpillPlanner$Reader" "SpillPlanner$Reader" "blocks" "I" ∈ GW := gw_in (tb2 (i := 130) rfl) rfl
theorem w2_131 : Cond.soleField "SpillPlanner$Reader" "blocks" ∈ GW := gw_in (tb2 (i := 131) rfl) rfl
theorem w2_132 : Cond.superclass "SpillPlanner$Reader" "java/lang/Object" ∈ GW := gw_in (tb2 (i := 132) rfl) rfl
theorem w2_133 : Cond.arrayClass FieldType.char ∈ GW := gw_in (tb2 (i := 133) rfl) rfl
theorem w2_134 : Cond.fieldLink "SpillPlanner" 25 "SpillPlanner" "program" "LSpillPlanner$Program;" ∈ GW := gw_in (tb2 (i := 134) rfl) rfl
theorem w2_135 : Cond.fieldLink "SpillPlanner" 29 "SpillPlanner" "snapshot" "LSpillPlanner$Program;" ∈ GW := gw_in (tb2 (i := 135) rfl) rfl
theorem w2_136 : Cond.fieldLink "SpillPlanner" 32 "SpillPlanner" "facts" "LSpillPlanner$Facts;" ∈ GW := gw_in (tb2 (i := 136) rfl) rfl
theorem w2_137 : Cond.fieldLink "SpillPlanner" 36 "SpillPlanner" "loopFinder" "LSpillPlanner$LoopFinder;" ∈ GW := gw_in (tb2 (i := 137) rfl) rfl
theorem w2_138 : Cond.fieldLink "SpillPlanner" 40 "SpillPlanner" "currentPlan" "LSpillPlanner$Plan;" ∈ GW := gw_in (tb2 (i := 138) rfl) rfl
theorem w2_139 : Cond.fieldLink "SpillPlanner" 47 "SpillPlanner" "plainMachine" "LSpillPlanner$Machine;" ∈ GW := gw_in (tb2 (i := 139) rfl) rfl
theorem w2_140 : Cond.fieldLink "SpillPlanner" 56 "SpillPlanner" "planMachine" "LSpillPlanner$Machine;" ∈ GW := gw_in (tb2 (i := 140) rfl) rfl
theorem w2_141 : Cond.fieldLink "SpillPlanner" 62 "SpillPlanner" "reader" "LSpillPlanner$Reader;" ∈ GW := gw_in (tb2 (i := 141) rfl) rfl
theorem w2_142 : Cond.fieldLink "SpillPlanner" 66 "SpillPlanner" "spareColours" "[I" ∈ GW := gw_in (tb2 (i := 142) rfl) rfl
theorem w2_143 : Cond.fieldLink "SpillPlanner" 70 "SpillPlanner" "latestCounts" "[I" ∈ GW := gw_in (tb2 (i := 143) rfl) rfl
theorem w2_144 : Cond.fieldLink "SpillPlanner" 73 "SpillPlanner" "latestVisits" "[I" ∈ GW := gw_in (tb2 (i := 144) rfl) rfl
theorem w2_145 : Cond.fieldLink "SpillPlanner" 317 "SpillPlanner" "hasSnapshot" "Z" ∈ GW := gw_in (tb2 (i := 145) rfl) rfl
theorem w2_146 : Cond.fieldLink "SpillPlanner" 225 "SpillPlanner" "hasPlan" "Z" ∈ GW := gw_in (tb2 (i := 146) rfl) rfl
theorem w2_147 : Cond.fieldLink "SpillPlanner" 322 "SpillPlanner" "isAnalysed" "Z" ∈ GW := gw_in (tb2 (i := 147) rfl) rfl
theorem w2_148 : Cond.laysFinal "SpillPlanner" "SpillPlanner" "program" "LSpillPlanner$Program;" ∈ GW := gw_in (tb2 (i := 148) rfl) rfl
theorem w2_149 : Cond.soleField "SpillPlanner" "program" ∈ GW := gw_in (tb2 (i := 149) rfl) rfl
theorem w2_150 : Cond.laysFinal "SpillPlanner" "SpillPlanner" "snapshot" "LSpillPlanner$Program;" ∈ GW := gw_in (tb2 (i := 150) rfl) rfl
theorem w2_151 : Cond.soleField "SpillPlanner" "snapshot" ∈ GW := gw_in (tb2 (i := 151) rfl) rfl
theorem w2_152 : Cond.laysFinal "SpillPlanner" "SpillPlanner" "facts" "LSpillPlanner$Facts;" ∈ GW := gw_in (tb2 (i := 152) rfl) rfl
theorem w2_153 : Cond.soleField "SpillPlanner" "facts" ∈ GW := gw_in (tb2 (i := 153) rfl) rfl
theorem w2_154 : Cond.laysFinal "SpillPlanner" "SpillPlanner" "loopFinder" "LSpillPlanner$LoopFinder;" ∈ GW := gw_in (tb2 (i := 154) rfl) rfl
theorem w2_155 : Cond.soleField "SpillPlanner" "loopFinder" ∈ GW := gw_in (tb2 (i := 155) rfl) rfl
theorem w2_156 : Cond.laysFinal "SpillPlanner" "SpillPlanner" "currentPlan" "LSpillPlanner$Plan;" ∈ GW := gw_in (tb2 (i := 156) rfl) rfl
theorem w2_157 : Cond.soleField "SpillPlanner" "currentPlan" ∈ GW := gw_in (tb2 (i := 157) rfl) rfl
theorem w2_158 : Cond.laysFinal "SpillPlanner" "SpillPlanner" "plainMachine" "LSpillPlanner$Machine;" ∈ GW := gw_in (tb2 (i := 158) rfl) rfl
theorem w2_159 : Cond.soleField "SpillPlanner" "plainMachine" ∈ GW := gw_in (tb2 (i := 159) rfl) rfl
theorem w2_160 : Cond.laysFinal "SpillPlanner" "SpillPlanner" "planMachine" "LSpillPlanner$Machine;" ∈ GW := gw_in (tb2 (i := 160) rfl) rfl
theorem w2_161 : Cond.soleField "SpillPlanner" "planMachine" ∈ GW := gw_in (tb2 (i := 161) rfl) rfl
theorem w2_162 : Cond.laysFinal "SpillPlanner" "SpillPlanner" "reader" "LSpillPlanner$Reader;" ∈ GW := gw_in (tb2 (i := 162) rfl) rfl
theorem w2_163 : Cond.soleField "SpillPlanner" "reader" ∈ GW := gw_in (tb2 (i := 163) rfl) rfl
theorem w2_164 : Cond.laysFinal "SpillPlanner" "SpillPlanner" "spareColours" "[I" ∈ GW := gw_in (tb2 (i := 164) rfl) rfl
theorem w2_165 : Cond.soleField "SpillPlanner" "spareColours" ∈ GW := gw_in (tb2 (i := 165) rfl) rfl
theorem w2_166 : Cond.laysFinal "SpillPlanner" "SpillPlanner" "latestCounts" "[I" ∈ GW := gw_in (tb2 (i := 166) rfl) rfl
theorem w2_167 : Cond.soleField "SpillPlanner" "latestCounts" ∈ GW := gw_in (tb2 (i := 167) rfl) rfl
theorem w2_168 : Cond.laysFinal "SpillPlanner" "SpillPlanner" "latestVisits" "[I" ∈ GW := gw_in (tb2 (i := 168) rfl) rfl
theorem w2_169 : Cond.soleField "SpillPlanner" "latestVisits" ∈ GW := gw_in (tb2 (i := 169) rfl) rfl
theorem w2_170 : Cond.lays "SpillPlanner" "SpillPlanner" "hasSnapshot" "Z" ∈ GW := gw_in (tb2 (i := 170) rfl) rfl
theorem w2_171 : Cond.soleField "SpillPlanner" "hasSnapshot" ∈ GW := gw_in (tb2 (i := 171) rfl) rfl
theorem w2_172 : Cond.lays "SpillPlanner" "SpillPlanner" "hasPlan" "Z" ∈ GW := gw_in (tb2 (i := 172) rfl) rfl
theorem w2_173 : Cond.soleField "SpillPlanner" "hasPlan" ∈ GW := gw_in (tb2 (i := 173) rfl) rfl
theorem w2_174 : Cond.lays "SpillPlanner" "SpillPlanner" "isAnalysed" "Z" ∈ GW := gw_in (tb2 (i := 174) rfl) rfl
theorem w2_175 : Cond.soleField "SpillPlanner" "isAnalysed" ∈ GW := gw_in (tb2 (i := 175) rfl) rfl
theorem w2_176 : Cond.superclass "SpillPlanner" "java/lang/Object" ∈ GW := gw_in (tb2 (i := 176) rfl) rfl
theorem w2_177 : Cond.methodLink "SpillPlannerLaw" 140 yX9_pressure ∈ GW := gw_in (tb2 (i := 177) rfl) rfl
theorem w2_178 : Cond.instanceMethod yX9_pressure ∈ GW := gw_in (tb2 (i := 178) rfl) rfl
theorem w2_179 : Cond.selects "SpillPlanner" yX9_pressure yX9_pressure ∈ GW := gw_in (tb2 (i := 179) rfl) rfl
theorem w2_180 : Cond.code yX9_pressure prog_1_method_12_code 1 (Option.some FieldType.int) ∈ GW := gw_in (tb2 (i := 180) rfl) rfl
theorem w2_181 : Cond.methodLink "SpillPlanner" 173 yX9_analyse ∈ GW := gw_in (tb2 (i := 181) rfl) rfl
theorem w2_183 : Cond.instanceMethod yX9_analyse ∈ GW := gw_in (tb2 (i := 183) rfl) rfl
theorem w2_184 : Cond.code yX9_analyse prog_1_method_31_code 1 (Option.none : Option FieldType) ∈ GW := gw_in (tb2 (i := 184) rfl) rfl
theorem w2_185 : Cond.methodLink "SpillPlanner" 325 yX1_find ∈ GW := gw_in (tb2 (i := 185) rfl) rfl
theorem w2_186 : Cond.instanceMethod yX1_find ∈ GW := gw_in (tb2 (i := 186) rfl) rfl
theorem w2_187 : Cond.selects "SpillPlanner$Facts" yX1_find yX1_find ∈ GW := gw_in (tb2 (i := 187) rfl) rfl
theorem w2_188 : Cond.code yX1_find prog_3_method_2_code 1 (Option.none : Option FieldType) ∈ GW := gw_in (tb2 (i := 188) rfl) rfl
theorem w2_189 : Cond.methodLink "SpillPlanner$Facts" 34 yX1_findLive ∈ GW := gw_in (tb2 (i := 189) rfl) rfl
theorem w2_191 : Cond.instanceMethod yX1_findLive ∈ GW := gw_in (tb2 (i := 191) rfl) rfl
theorem w2_192 : Cond.code yX1_findLive prog_3_method_4_code 3 (Option.none : Option FieldType) ∈ GW := gw_in (tb2 (i := 192) rfl) rfl
theorem w2_193 : Cond.methodLink "SpillPlanner$Facts" 43 yJ7_fill_53178 ∈ GW := gw_in (tb2 (i := 193) rfl) rfl
theorem w2_194 : Cond.static yJ7_fill_53178 ∈ GW := gw_in (tb2 (i := 194) rfl) rfl
theorem w2_195 : Cond.code yJ7_fill_53178 prog_33_method_103_code 4 (Option.none : Option FieldType) ∈ GW := gw_in (tb2 (i := 195) rfl) rfl
theorem w2_196 : Cond.methodLink "SpillPlanner$Facts" 55 yX1_findLiveIn ∈ GW := gw_in (tb2 (i := 196) rfl) rfl
theorem w2_198 : Cond.instanceMethod yX1_findLiveIn ∈ GW := gw_in (tb2 (i := 198) rfl) rfl
theorem w2_199 : Cond.code yX1_findLiveIn prog_3_method_5_code 6 (Option.none : Option FieldType) ∈ GW := gw_in (tb2 (i := 199) rfl) rfl
theorem w2_200 : Cond.methodLink "SpillPlanner$Facts" 63 yX0_successors ∈ GW := gw_in (tb2 (i := 200) rfl) rfl
theorem w2_201 : Cond.instanceMethod yX0_successors ∈ GW := gw_in (tb2 (i := 201) rfl) rfl
theorem w2_202 : Cond.selects "SpillPlanner$Block" yX0_successors yX0_successors ∈ GW := gw_in (tb2 (i := 202) rfl) rfl
theorem w2_203 : Cond.code yX0_successors prog_2_method_8_code 1 (Option.some FieldType.int) ∈ GW := gw_in (tb2 (i := 203) rfl) rfl
theorem w2_204 : Cond.methodLink "SpillPlanner$Facts" 69 yX0_usedByEnd ∈ GW := gw_in (tb2 (i := 204) rfl) rfl
theorem w2_205 : Cond.instanceMethod yX0_usedByEnd ∈ GW := gw_in (tb2 (i := 205) rfl) rfl
theorem w2_206 : Cond.selects "SpillPlanner$Block" yX0_usedByEnd yX0_usedByEnd ∈ GW := gw_in (tb2 (i := 206) rfl) rfl
theorem w2_207 : Cond.code yX0_usedByEnd prog_2_method_7_code 1 (Option.some FieldType.int) ∈ GW := gw_in (tb2 (i := 207) rfl) rfl
theorem w2_208 : Cond.methodLinkNest "SpillPlanner$Facts" 72 yX9_has "SpillPlanner" ∈ NW := List.mem_filter.mpr ⟨tb2 (i := 208) rfl, rfl⟩
theorem w2_209 : Cond.static yX9_has ∈ GW := gw_in (tb2 (i := 209) rfl) rfl
theorem w2_210 : Cond.code yX9_has prog_1_method_40_code 2 (Option.some FieldType.boolean) ∈ GW := gw_in (tb2 (i := 210) rfl) rfl
theorem w2_211 : Cond.methodLink "SpillPlanner$Facts" 76 yX1_liveAtBeginning ∈ GW := gw_in (tb2 (i := 211) rfl) rfl
theorem w2_212 : Cond.instanceMethod yX1_liveAtBeginning ∈ GW := gw_in (tb2 (i := 212) rfl) rfl
theorem w2_213 : Cond.selects "SpillPlanner$Facts" yX1_liveAtBeginning yX1_liveAtBeginning ∈ GW := gw_in (tb2 (i := 213) rfl) rfl
theorem w2_214 : Cond.code yX1_liveAtBeginning prog_3_method_3_code 2 (Option.some FieldType.int) ∈ GW := gw_in (tb2 (i := 214) rfl) rfl
theorem w2_215 : Cond.methodLink "SpillPlanner$Facts" 84 yX0_usedBy ∈ GW := gw_in (tb2 (i := 215) rfl) rfl
theorem w2_216 : Cond.instanceMethod yX0_usedBy ∈ GW := gw_in (tb2 (i := 216) rfl) rfl
theorem w2_217 : Cond.selects "SpillPlanner$Block" yX0_usedBy yX0_usedBy ∈ GW := gw_in (tb2 (i := 217) rfl) rfl
theorem w2_218 : Cond.code yX0_usedBy prog_2_method_6_code 3 (Option.some FieldType.int) ∈ GW := gw_in (tb2 (i := 218) rfl) rfl
theorem w2_219 : Cond.methodLink "SpillPlanner$Facts" 37 yX1_countUses ∈ GW := gw_in (tb2 (i := 219) rfl) rfl
theorem w2_221 : Cond.instanceMethod yX1_countUses ∈ GW := gw_in (tb2 (i := 221) rfl) rfl
theorem w2_222 : Cond.code yX1_countUses prog_3_method_6_code 5 (Option.none : Option FieldType) ∈ GW := gw_in (tb2 (i := 222) rfl) rfl
theorem w2_223 : Cond.methodLink "SpillPlanner$Facts" 87 yX1_countSet ∈ GW := gw_in (tb2 (i := 223) rfl) rfl
theorem w2_225 : Cond.instanceMethod yX1_countSet ∈ GW := gw_in (tb2 (i := 225) rfl) rfl
theorem w2_226 : Cond.code yX1_countSet prog_3_method_7_code 4 (Option.none : Option FieldType) ∈ GW := gw_in (tb2 (i := 226) rfl) rfl
theorem w2_227 : Cond.methodLink "SpillPlanner$Facts" 40 yX1_findRivals ∈ GW := gw_in (tb2 (i := 227) rfl) rfl
theorem w2_229 : Cond.instanceMethod yX1_findRivals ∈ GW := gw_in (tb2 (i := 229) rfl) rfl
theorem w2_230 : Cond.code yX1_findRivals prog_3_method_8_code 4 (Option.none : Option FieldType) ∈ GW := gw_in (tb2 (i := 230) rfl) rfl
theorem w2_231 : Cond.methodLink "SpillPlanner$Facts" 97 yX1_addRivals ∈ GW := gw_in (tb2 (i := 231) rfl) rfl
theorem w2_233 : Cond.instanceMethod yX1_addRivals ∈ GW := gw_in (tb2 (i := 233) rfl) rfl
theorem w2_234 : Cond.code yX1_addRivals prog_3_method_9_code 5 (Option.none : Option FieldType) ∈ GW := gw_in (tb2 (i := 234) rfl) rfl
theorem w2_235 : Cond.methodLink "SpillPlanner" 328 yX2_find ∈ GW := gw_in (tb2 (i := 235) rfl) rfl
theorem w2_236 : Cond.instanceMethod yX2_find ∈ GW := gw_in (tb2 (i := 236) rfl) rfl
theorem w2_237 : Cond.selects "SpillPlanner$LoopFinder" yX2_find yX2_find ∈ GW := gw_in (tb2 (i := 237) rfl) rfl
theorem w2_238 : Cond.code yX2_find prog_4_method_2_code 5 (Option.none : Option FieldType) ∈ GW := gw_in (tb2 (i := 238) rfl) rfl
theorem w2_239 : Cond.methodLink "SpillPlanner$LoopFinder" 26 yX2_reachableWithout ∈ GW := gw_in (tb2 (i := 239) rfl) rfl
theorem w3_1 : Cond.instanceMethod yX2_reachableWithout ∈ GW := gw_in (tb3 (i := 1) rfl) rfl
theorem w3_2 : Cond.code yX2_reachableWithout prog_4_method_3_code 6 (Option.some FieldType.int) ∈ GW := gw_in (tb3 (i := 2) rfl) rfl
theorem w3_3 : Cond.methodLinkNest "SpillPlanner$LoopFinder" 42 yX9_has "SpillPlanner" ∈ NW := List.mem_filter.mpr ⟨tb3 (i := 3) rfl, rfl⟩
theorem w3_4 : Cond.methodLink "SpillPlanner$LoopFinder" 50 yX0_successors ∈ GW := gw_in (tb3 (i := 4) rfl) rfl
theorem w3_5 : Cond.methodLink "SpillPlanner$LoopFinder" 35 yX2_predecessors ∈ GW := gw_in (tb3 (i := 5) rfl) rfl
theorem w3_7 : Cond.instanceMethod yX2_predecessors ∈ GW := gw_in (tb3 (i := 7) rfl) rfl
theorem w3_8 : Cond.code yX2_predecessors prog_4_method_5_code 4 (Option.some FieldType.int) ∈ GW := gw_in (tb3 (i := 8) rfl) rfl
theorem w3_9 : Cond.methodLink "SpillPlanner$LoopFinder" 38 yX2_loopBlocks ∈ GW := gw_in (tb3 (i := 9) rfl) rfl
theorem w3_11 : Cond.instanceMethod yX2_loopBlocks ∈ GW := gw_in (tb3 (i := 11) rfl) rfl
theorem w3_12 : Cond.code yX2_loopBlocks prog_4_method_4_code 6 (Option.some FieldType.int) ∈ GW := gw_in (tb3 (i := 12) rfl) rfl
theorem w3_13 : Cond.methodLink "SpillPlanner" 182 yX1_greatestLive ∈ GW := gw_in (tb3 (i := 13) rfl) rfl
theorem w3_14 : Cond.instanceMethod yX1_greatestLive ∈ GW := gw_in (tb3 (i := 14) rfl) rfl
theorem w3_15 : Cond.selects "SpillPlanner$Facts" yX1_greatestLive yX1_greatestLive ∈ GW := gw_in (tb3 (i := 15) rfl) rfl
theorem w3_16 : Cond.code yX1_greatestLive prog_3_method_10_code 4 (Option.some FieldType.int) ∈ GW := gw_in (tb3 (i := 16) rfl) rfl
theorem w3_17 : Cond.methodLink "SpillPlanner$Facts" 100 yJ6_bitCount_0f7a4 ∈ GW := gw_in (tb3 (i := 17) rfl) rfl
theorem w3_18 : Cond.static yJ6_bitCount_0f7a4 ∈ GW := gw_in (tb3 (i := 18) rfl) rfl
theorem w3_19 : Cond.code yJ6_bitCount_0f7a4 prog_22_method_49_code 1 (Option.some FieldType.int) ∈ GW := gw_in (tb3 (i := 19) rfl) rfl
theorem w3_20 : Cond.constant "java/lang/Integer" 265 (1431655765 : Int32) ∈ GW := gw_in (tb3 (i := 20) rfl) rfl
theorem w3_21 : Cond.constant "java/lang/Integer" 266 (858993459 : Int32) ∈ GW := gw_in (tb3 (i := 21) rfl) rfl
theorem w3_22 : Cond.constant "java/lang/Integer" 267 (252645135 : Int32) ∈ GW := gw_in (tb3 (i := 22) rfl) rfl
theorem w3_23 : Cond.methodLink "SpillPlanner$Facts" 105 yJ9_max_7cf53 ∈ GW := gw_in (tb3 (i := 23) rfl) rfl
theorem w3_24 : Cond.static yJ9_max_7cf53 ∈ GW := gw_in (tb3 (i := 24) rfl) rfl
theorem w3_25 : Cond.code yJ9_max_7cf53 prog_23_method_65_code 2 (Option.some FieldType.int) ∈ GW := gw_in (tb3 (i := 25) rfl) rfl
theorem w3_26 : Cond.methodLink "SpillPlannerLaw" 144 yX9_loops ∈ GW := gw_in (tb3 (i := 26) rfl) rfl
theorem w3_27 : Cond.instanceMethod yX9_loops ∈ GW := gw_in (tb3 (i := 27) rfl) rfl
theorem w3_28 : Cond.selects "SpillPlanner" yX9_loops yX9_loops ∈ GW := gw_in (tb3 (i := 28) rfl) rfl
theorem w3_29 : Cond.code yX9_loops prog_1_method_13_code 1 (Option.some FieldType.int) ∈ GW := gw_in (tb3 (i := 29) rfl) rfl
theorem w3_30 : Cond.methodLink "SpillPlannerLaw" 167 yX9_enough ∈ GW := gw_in (tb3 (i := 30) rfl) rfl
theorem w3_31 : Cond.instanceMethod yX9_enough ∈ GW := gw_in (tb3 (i := 31) rfl) rfl
theorem w3_32 : Cond.selects "SpillPlanner" yX9_enough yX9_enough ∈ GW := gw_in (tb3 (i := 32) rfl) rfl
theorem w3_33 : Cond.code yX9_enough prog_1_method_20_code 1 (Option.some FieldType.int) ∈ GW := gw_in (tb3 (i := 33) rfl) rfl
theorem w3_34 : Cond.methodLink "SpillPlanner" 265 yX1_usedVariables ∈ GW := gw_in (tb3 (i := 34) rfl) rfl
theorem w3_35 : Cond.instanceMethod yX1_usedVariables ∈ GW := gw_in (tb3 (i := 35) rfl) rfl
theorem w3_36 : Cond.selects "SpillPlanner$Facts" yX1_usedVariables yX1_usedVariables ∈ GW := gw_in (tb3 (i := 36) rfl) rfl
theorem w3_37 : Cond.code yX1_usedVariables prog_3_method_11_code 3 (Option.some FieldType.int) ∈ GW := gw_in (tb3 (i := 37) rfl) rfl
theorem w3_38 : Cond.methodLink "SpillPlanner$Facts" 111 yX1_mentionedIn ∈ GW := gw_in (tb3 (i := 38) rfl) rfl
theorem w3_39 : Cond.instanceMethod yX1_mentionedIn ∈ GW := gw_in (tb3 (i := 39) rfl) rfl
theorem w3_40 : Cond.selects "SpillPlanner$Facts" yX1_mentionedIn yX1_mentionedIn ∈ GW := gw_in (tb3 (i := 40) rfl) rfl
theorem w3_41 : Cond.code yX1_mentionedIn prog_3_method_12_code 2 (Option.some FieldType.int) ∈ GW := gw_in (tb3 (i := 41) rfl) rfl
theorem w3_42 : Cond.methodLink "SpillPlanner$Facts" 114 yX1_countedIn ∈ GW := gw_in (tb3 (i := 42) rfl) rfl
theorem w3_43 : Cond.static yX1_countedIn ∈ GW := gw_in (tb3 (i := 43) rfl) rfl
theorem w3_44 : Cond.code yX1_countedIn prog_3_method_14_code 4 (Option.some FieldType.int) ∈ GW := gw_in (tb3 (i := 44) rfl) rfl
theorem w3_45 : Cond.methodLink "SpillPlanner$Facts" 118 yX1_definedIn ∈ GW := gw_in (tb3 (i := 45) rfl) rfl
theorem w3_46 : Cond.instanceMethod yX1_definedIn ∈ GW := gw_in (tb3 (i := 46) rfl) rfl
theorem w3_47 : Cond.selects "SpillPlanner$Facts" yX1_definedIn yX1_definedIn ∈ GW := gw_in (tb3 (i := 47) rfl) rfl
theorem w3_48 : Cond.code yX1_definedIn prog_3_method_13_code 2 (Option.some FieldType.int) ∈ GW := gw_in (tb3 (i := 48) rfl) rfl
theorem w3_49 : Cond.methodLink "SpillPlanner" 268 yX9_colourGreedily ∈ GW := gw_in (tb3 (i := 49) rfl) rfl
theorem w3_50 : Cond.static yX9_colourGreedily ∈ GW := gw_in (tb3 (i := 50) rfl) rfl
theorem w3_51 : Cond.code yX9_colourGreedily prog_1_method_41_code 6 (Option.none : Option FieldType) ∈ GW := gw_in (tb3 (i := 51) rfl) rfl
theorem w3_52 : Cond.methodLink "SpillPlanner" 376 yX9_has ∈ GW := gw_in (tb3 (i := 52) rfl) rfl
theorem w3_53 : Cond.methodLink "SpillPlanner" 380 yX9_lowestMissing ∈ GW := gw_in (tb3 (i := 53) rfl) rfl
theorem w3_54 : Cond.static yX9_lowestMissing ∈ GW := gw_in (tb3 (i := 54) rfl) rfl
theorem w3_55 : Cond.code yX9_lowestMissing prog_1_method_42_code 2 (Option.some FieldType.int) ∈ GW := gw_in (tb3 (i := 55) rfl) rfl
theorem w3_56 : Cond.methodLink "SpillPlanner" 272 yX9_numbersInUse ∈ GW := gw_in (tb3 (i := 56) rfl) rfl
theorem w3_57 : Cond.static yX9_numbersInUse ∈ GW := gw_in (tb3 (i := 57) rfl) rfl
theorem w3_58 : Cond.code yX9_numbersInUse prog_1_method_43_code 3 (Option.some FieldType.int) ∈ GW := gw_in (tb3 (i := 58) rfl) rfl
theorem w3_59 : Cond.methodLink "SpillPlanner" 276 yJ9_max_7cf53 ∈ GW := gw_in (tb3 (i := 59) rfl) rfl
theorem w3_60 : Cond.methodLink "SpillPlannerLaw" 183 yX9_profile ∈ GW := gw_in (tb3 (i := 60) rfl) rfl
theorem w3_61 : Cond.instanceMethod yX9_profile ∈ GW := gw_in (tb3 (i := 61) rfl) rfl
theorem w3_62 : Cond.selects "SpillPlanner" yX9_profile yX9_profile ∈ GW := gw_in (tb3 (i := 62) rfl) rfl
theorem w3_63 : Cond.code yX9_profile prog_1_method_25_code 4 (Option.some FieldType.int) ∈ GW := gw_in (tb3 (i := 63) rfl) rfl
theorem w3_64 : Cond.methodLink "SpillPlanner" 91 yX9_programChanged ∈ GW := gw_in (tb3 (i := 64) rfl) rfl
theorem w3_66 : Cond.instanceMethod yX9_programChanged ∈ GW := gw_in (tb3 (i := 66) rfl) rfl
theorem w3_67 : Cond.code yX9_programChanged prog_1_method_30_code 1 (Option.none : Option FieldType) ∈ GW := gw_in (tb3 (i := 67) rfl) rfl
theorem w3_68 : Cond.methodLink "SpillPlannerLaw" 194 yX9_saveSnapshot ∈ GW := gw_in (tb3 (i := 68) rfl) rfl
theorem w3_69 : Cond.instanceMethod yX9_saveSnapshot ∈ GW := gw_in (tb3 (i := 69) rfl) rfl
theorem w3_70 : Cond.selects "SpillPlanner" yX9_saveSnapshot yX9_saveSnapshot ∈ GW := gw_in (tb3 (i := 70) rfl) rfl
theorem w3_71 : Cond.code yX9_saveSnapshot prog_1_method_28_code 1 (Option.some FieldType.int) ∈ GW := gw_in (tb3 (i := 71) rfl) rfl
theorem w3_72 : Cond.methodLink "SpillPlanner" 314 yX7_copy ∈ GW := gw_in (tb3 (i := 72) rfl) rfl
theorem w3_73 : Cond.instanceMethod yX7_copy ∈ GW := gw_in (tb3 (i := 73) rfl) rfl
theorem w3_74 : Cond.selects "SpillPlanner$Program" yX7_copy yX7_copy ∈ GW := gw_in (tb3 (i := 74) rfl) rfl
theorem w3_75 : Cond.code yX7_copy prog_9_method_3_code 3 (Option.none : Option FieldType) ∈ GW := gw_in (tb3 (i := 75) rfl) rfl
theorem w3_76 : Cond.methodLink "SpillPlanner$Program" 35 yX0_copyCode ∈ GW := gw_in (tb3 (i := 76) rfl) rfl
theorem w3_77 : Cond.instanceMethod yX0_copyCode ∈ GW := gw_in (tb3 (i := 77) rfl) rfl
theorem w3_78 : Cond.selects "SpillPlanner$Block" yX0_copyCode yX0_copyCode ∈ GW := gw_in (tb3 (i := 78) rfl) rfl
theorem w3_79 : Cond.code yX0_copyCode prog_2_method_5_code 2 (Option.none : Option FieldType) ∈ GW := gw_in (tb3 (i := 79) rfl) rfl
theorem w3_80 : Cond.methodLink "SpillPlanner$Block" 50 (⟨"java/lang/System", "arraycopy", "(Ljava/lang/Object;ILjava/lang/Object;II)V"⟩ : MethodName) ∈ GW := gw_in (tb3 (i := 80) rfl) rfl
theorem w3_81 : Cond.static (⟨"java/lang/System", "arraycopy", "(Ljava/lang/Object;ILjava/lang/Object;II)V"⟩ : MethodName) ∈ GW := gw_in (tb3 (i := 81) rfl) rfl
theorem w3_82 : Cond.native (⟨"java/lang/System", "arraycopy", "(Ljava/lang/Object;ILjava/lang/Object;II)V"⟩ : MethodName) ∈ GW := gw_in (tb3 (i := 82) rfl) rfl
theorem w3_83 : Cond.methodLink "SpillPlanner$Program" 42 (⟨"java/lang/System", "arraycopy", "(Ljava/lang/Object;ILjava/lang/Object;II)V"⟩ : MethodName) ∈ GW := gw_in (tb3 (i := 83) rfl) rfl
theorem w3_84 : Cond.methodLink "SpillPlannerLaw" 101 yL_clear ∈ GW := gw_in (tb3 (i := 84) rfl) rfl
theorem w3_85 : Cond.static yL_clear ∈ GW := gw_in (tb3 (i := 85) rfl) rfl
theorem w3_86 : Cond.codeWith yL_clear method_3_code 4 (Option.some FieldType.int) [(0, 9, 12, 13)] ∈ GW := gw_in (tb3 (i := 86) rfl) rfl
theorem w3_87 : Cond.classLink "SpillPlannerLaw" 13 "java/lang/IllegalArgumentException" ∈ GW := gw_in (tb3 (i := 87) rfl) rfl
theorem w3_88 : Cond.methodLink "SpillPlannerLaw" 7 yX9_clear ∈ GW := gw_in (tb3 (i := 88) rfl) rfl
theorem w3_89 : Cond.instanceMethod yX9_clear ∈ GW := gw_in (tb3 (i := 89) rfl) rfl
theorem w3_90 : Cond.selects "SpillPlanner" yX9_clear yX9_clear ∈ GW := gw_in (tb3 (i := 90) rfl) rfl
theorem w3_91 : Cond.code yX9_clear prog_1_method_2_code 3 (Option.some FieldType.int) ∈ GW := gw_in (tb3 (i := 91) rfl) rfl
theorem w3_92 : Cond.classLink "SpillPlanner" 76 "java/lang/IllegalArgumentException" ∈ GW := gw_in (tb3 (i := 92) rfl) rfl
theorem w3_93 : Cond.instantiable "java/lang/IllegalArgumentException" 6 ∈ GW := gw_in (tb3 (i := 93) rfl) rfl
theorem w3_94 : Cond.castable "java/lang/IllegalArgumentException" "java/lang/IllegalArgumentException" ∈ NW := List.mem_filter.mpr ⟨tb3 (i := 94) rfl, rfl⟩
theorem w3_95 : Cond.declares (⟨"java/lang/RuntimeException", "<init>", "()V"⟩ : MethodName) ∈ NW := List.mem_filter.mpr ⟨tb3 (i := 95) rfl, rfl⟩
theorem w3_96 : Cond.declares (⟨"java/lang/RuntimeException", "<init>", "(Ljava/lang/String;)V"⟩ : MethodName) ∈ NW := List.mem_filter.mpr ⟨tb3 (i := 96) rfl, rfl⟩
theorem w3_97 : Cond.declares (⟨"java/lang/Exception", "<init>", "()V"⟩ : MethodName) ∈ NW := List.mem_filter.mpr ⟨tb3 (i := 97) rfl, rfl⟩
theorem w3_98 : Cond.declares (⟨"java/lang/Exception", "<init>", "(Ljava/lang/String;)V"⟩ : MethodName) ∈ NW := List.mem_filter.mpr ⟨tb3 (i := 98) rfl, rfl⟩
theorem w3_99 : Cond.declares (⟨"java/lang/Throwable", "<init>", "()V"⟩ : MethodName) ∈ NW := List.mem_filter.mpr ⟨tb3 (i := 99) rfl, rfl⟩
theorem w3_100 : Cond.declares (⟨"java/lang/Throwable", "<init>", "(Ljava/lang/String;)V"⟩ : MethodName) ∈ NW := List.mem_filter.mpr ⟨tb3 (i := 100) rfl, rfl⟩
theorem w3_101 : Cond.selects "java/lang/IllegalArgumentException" (⟨"java/lang/Throwable", "fillInStackTrace", "(I)Ljava/lang/Throwable;"⟩ : MethodName) (⟨"java/lang/Throwable", "fillInStackTrace", "(I)Ljava/lang/Throwable;"⟩ : MethodName) ∈ GW := gw_in (tb3 (i := 101) rfl) rfl
theorem w3_102 : Cond.selects "java/lang/IllegalArgumentException" (⟨"java/lang/Throwable", "fillInStackTrace", "()Ljava/lang/Throwable;"⟩ : MethodName) (⟨"java/lang/Throwable", "fillInStackTrace", "()Ljava/lang/Throwable;"⟩ : MethodName) ∈ GW := gw_in (tb3 (i := 102) rfl) rfl
theorem w3_103 : Cond.lays "java/lang/IllegalArgumentException" "java/lang/Throwable" "cause" "Ljava/lang/Throwable;" ∈ GW := gw_in (tb3 (i := 103) rfl) rfl
theorem w3_104 : Cond.lays "java/lang/Throwable" "java/lang/Throwable" "cause" "Ljava/lang/Throwable;" ∈ GW := gw_in (tb3 (i := 104) rfl) rfl
theorem w3_105 : Cond.lays "java/lang/IllegalArgumentException" "java/lang/Throwable" "stackTrace" "[Ljava/lang/StackTraceElement;" ∈ GW := gw_in (tb3 (i := 105) rfl) rfl
theorem w3_106 : Cond.lays "java/lang/Throwable" "java/lang/Throwable" "stackTrace" "[Ljava/lang/StackTraceElement;" ∈ GW := gw_in (tb3 (i := 106) rfl) rfl
theorem w3_107 : Cond.lays "java/lang/IllegalArgumentException" "java/lang/Throwable" "suppressedExceptions" "Ljava/util/List;" ∈ GW := gw_in (tb3 (i := 107) rfl) rfl
theorem w3_108 : Cond.lays "java/lang/Throwable" "java/lang/Throwable" "suppressedExceptions" "Ljava/util/List;" ∈ GW := gw_in (tb3 (i := 108) rfl) rfl
theorem w3_109 : Cond.lays "java/lang/IllegalArgumentException" "java/lang/Throwable" "detailMessage" "Ljava/lang/String;" ∈ GW := gw_in (tb3 (i := 109) rfl) rfl
theorem w3_110 : Cond.lays "java/lang/Throwable" "java/lang/Throwable" "detailMessage" "Ljava/lang/String;" ∈ GW := gw_in (tb3 (i := 110) rfl) rfl
theorem w3_111 : Cond.lays "java/lang/IllegalArgumentException" "java/lang/Throwable" "backtrace" "Ljava/lang/Object;" ∈ GW := gw_in (tb3 (i := 111) rfl) rfl
theorem w3_112 : Cond.lays "java/lang/Throwable" "java/lang/Throwable" "backtrace" "Ljava/lang/Object;" ∈ GW := gw_in (tb3 (i := 112) rfl) rfl
theorem w3_113 : Cond.fieldLink "java/lang/Throwable" 198 "java/lang/Throwable" "backtrace" "Ljava/lang/Object;" ∈ GW := gw_in (tb3 (i := 113) rfl) rfl
theorem w3_114 : Cond.superclass "java/lang/Throwable" "java/lang/Object" ∈ GW := gw_in (tb3 (i := 114) rfl) rfl
theorem w3_115 : Cond.instanceMethod (⟨"java/lang/Throwable", "<init>", "()V"⟩ : MethodName) ∈ GW := gw_in (tb3 (i := 115) rfl) rfl
theorem w3_116 : Cond.code (⟨"java/lang/Throwable", "<init>", "()V"⟩ : MethodName) prog_29_method_1_code 1 (Option.none : Option FieldType) ∈ GW := gw_in (tb3 (i := 116) rfl) rfl
theorem w3_117 : Cond.methodLink "java/lang/Throwable" 1 (⟨"java/lang/Object", "<init>", "()V"⟩ : MethodName) ∈ GW := gw_in (tb3 (i := 117) rfl) rfl
theorem w3_118 : Cond.fieldLink "java/lang/Throwable" 13 "java/lang/Throwable" "UNASSIGNED_STACK" "[Ljava/lang/StackTraceElement;" ∈ GW := gw_in (tb3 (i := 118) rfl) rfl
theorem w3_120 : Cond.fieldLink "java/lang/Throwable" 20 "java/lang/Throwable" "SUPPRESSED_SENTINEL" "Ljava/util/List;" ∈ GW := gw_in (tb3 (i := 120) rfl) rfl
theorem w3_122 : Cond.methodLink "java/lang/Throwable" 27 (⟨"java/lang/Throwable", "fillInStackTrace", "()Ljava/lang/Throwable;"⟩ : MethodName) ∈ GW := gw_in (tb3 (i := 122) rfl) rfl
theorem w3_123 : Cond.instanceMethod (⟨"java/lang/Throwable", "fillInStackTrace", "()Ljava/lang/Throwable;"⟩ : MethodName) ∈ GW := gw_in (tb3 (i := 123) rfl) rfl
theorem w3_124 : Cond.sameMethod "java/lang/Throwable" "java/lang/Throwable" "fillInStackTrace" "()Ljava/lang/Throwable;" ∈ GW := gw_in (tb3 (i := 124) rfl) rfl
theorem w3_125 : Cond.selects "java/lang/ArithmeticException" (⟨"java/lang/Throwable", "fillInStackTrace", "()Ljava/lang/Throwable;"⟩ : MethodName) (⟨"java/lang/Throwable", "fillInStackTrace", "()Ljava/lang/Throwable;"⟩ : MethodName) ∈ GW := gw_in (tb3 (i := 125) rfl) rfl
theorem w3_126 : Cond.selects "java/lang/ArrayIndexOutOfBoundsException" (⟨"java/lang/Throwable", "fillInStackTrace", "()Ljava/lang/Throwable;"⟩ : MethodName) (⟨"java/lang/Throwable", "fillInStackTrace", "()Ljava/lang/Throwable;"⟩ : MethodName) ∈ GW := gw_in (tb3 (i := 126) rfl) rfl
theorem w3_127 : Cond.selects "java/lang/IllegalStateException" (⟨"java/lang/Throwable", "fillInStackTrace", "()Ljava/lang/Throwable;"⟩ : MethodName) (⟨"java/lang/Throwable", "fillInStackTrace", "()Ljava/lang/Throwable;"⟩ : MethodName) ∈ GW := gw_in (tb3 (i := 127) rfl) rfl
theorem w3_128 : Cond.selects "java/lang/IndexOutOfBoundsException" (⟨"java/lang/Throwable", "fillInStackTrace", "()Ljava/lang/Throwable;"⟩ : MethodName) (⟨"java/lang/Throwable", "fillInStackTrace", "()Ljava/lang/Throwable;"⟩ : MethodName) ∈ GW := gw_in (tb3 (i := 128) rfl) rfl
theorem w3_129 : Cond.selects "java/lang/UnsupportedOperationException" (⟨"java/lang/Throwable", "fillInStackTrace", "()Ljava/lang/Throwable;"⟩ : MethodName) (⟨"java/lang/Throwable", "fillInStackTrace", "()Ljava/lang/Throwable;"⟩ : MethodName) ∈ GW := gw_in (tb3 (i := 129) rfl) rfl
theorem w3_130 : Cond.selects "java/util/NoSuchElementException" (⟨"java/lang/Throwable", "fillInStackTrace", "()Ljava/lang/Throwable;"⟩ : MethodName) (⟨"java/lang/Throwable", "fillInStackTrace", "()Ljava/lang/Throwable;"⟩ : MethodName) ∈ GW := gw_in (tb3 (i := 130) rfl) rfl
theorem w3_132 : Cond.methodLink "java/lang/Throwable" 202 (⟨"java/lang/Throwable", "fillInStackTrace", "(I)Ljava/lang/Throwable;"⟩ : MethodName) ∈ GW := gw_in (tb3 (i := 132) rfl) rfl
theorem w3_134 : Cond.instanceMethod (⟨"java/lang/Throwable", "fillInStackTrace", "(I)Ljava/lang/Throwable;"⟩ : MethodName) ∈ GW := gw_in (tb3 (i := 134) rfl) rfl
theorem w3_135 : Cond.instantiable "java/lang/Throwable" 6 ∈ GW := gw_in (tb3 (i := 135) rfl) rfl
theorem w3_136 : Cond.native (⟨"java/lang/Throwable", "fillInStackTrace", "(I)Ljava/lang/Throwable;"⟩ : MethodName) ∈ GW := gw_in (tb3 (i := 136) rfl) rfl
theorem w3_138 : Cond.methodLink "SpillPlanner" 80 (⟨"java/lang/IllegalArgumentException", "<init>", "(Ljava/lang/String;)V"⟩ : MethodName) ∈ GW := gw_in (tb3 (i := 138) rfl) rfl
theorem w3_139 : Cond.instanceMethod (⟨"java/lang/IllegalArgumentException", "<init>", "(Ljava/lang/String;)V"⟩ : MethodName) ∈ GW := gw_in (tb3 (i := 139) rfl) rfl
theorem w3_140 : Cond.code (⟨"java/lang/IllegalArgumentException", "<init>", "(Ljava/lang/String;)V"⟩ : MethodName) prog_19_method_2_code 2 (Option.none : Option FieldType) ∈ GW := gw_in (tb3 (i := 140) rfl) rfl
theorem w3_141 : Cond.methodLink "java/lang/IllegalArgumentException" 7 (⟨"java/lang/RuntimeException", "<init>", "(Ljava/lang/String;)V"⟩ : MethodName) ∈ GW := gw_in (tb3 (i := 141) rfl) rfl
theorem w3_142 : Cond.instanceMethod (⟨"java/lang/RuntimeException", "<init>", "(Ljava/lang/String;)V"⟩ : MethodName) ∈ GW := gw_in (tb3 (i := 142) rfl) rfl
theorem w3_143 : Cond.code (⟨"java/lang/RuntimeException", "<init>", "(Ljava/lang/String;)V"⟩ : MethodName) prog_24_method_2_code 2 (Option.none : Option FieldType) ∈ GW := gw_in (tb3 (i := 143) rfl) rfl
theorem w3_144 : Cond.methodLink "java/lang/RuntimeException" 7 (⟨"java/lang/Exception", "<init>", "(Ljava/lang/String;)V"⟩ : MethodName) ∈ GW := gw_in (tb3 (i := 144) rfl) rfl
theorem w3_145 : Cond.instanceMethod (⟨"java/lang/Exception", "<init>", "(Ljava/lang/String;)V"⟩ : MethodName) ∈ GW := gw_in (tb3 (i := 145) rfl) rfl
theorem w3_146 : Cond.code (⟨"java/lang/Exception", "<init>", "(Ljava/lang/String;)V"⟩ : MethodName) prog_18_method_2_code 2 (Option.none : Option FieldType) ∈ GW := gw_in (tb3 (i := 146) rfl) rfl
theorem w3_147 : Cond.methodLink "java/lang/Exception" 7 (⟨"java/lang/Throwable", "<init>", "(Ljava/lang/String;)V"⟩ : MethodName) ∈ GW := gw_in (tb3 (i := 147) rfl) rfl
theorem w3_148 : Cond.instanceMethod (⟨"java/lang/Throwable", "<init>", "(Ljava/lang/String;)V"⟩ : MethodName) ∈ GW := gw_in (tb3 (i := 148) rfl) rfl
theorem w3_149 : Cond.code (⟨"java/lang/Throwable", "<init>", "(Ljava/lang/String;)V"⟩ : MethodName) prog_29_method_2_code 2 (Option.none : Option FieldType) ∈ GW := gw_in (tb3 (i := 149) rfl) rfl
theorem w3_151 : Cond.fieldLink "java/lang/Throwable" 31 "java/lang/Throwable" "detailMessage" "Ljava/lang/String;" ∈ GW := gw_in (tb3 (i := 151) rfl) rfl
theorem w3_152 : Cond.fieldLink "java/lang/Throwable" 7 "java/lang/Throwable" "cause" "Ljava/lang/Throwable;" ∈ GW := gw_in (tb3 (i := 152) rfl) rfl
theorem w3_153 : Cond.fieldLink "java/lang/Throwable" 17 "java/lang/Throwable" "stackTrace" "[Ljava/lang/StackTraceElement;" ∈ GW := gw_in (tb3 (i := 153) rfl) rfl
theorem w3_154 : Cond.fieldLink "java/lang/Throwable" 24 "java/lang/Throwable" "suppressedExceptions" "Ljava/util/List;" ∈ GW := gw_in (tb3 (i := 154) rfl) rfl
theorem w3_155 : Cond.soleField "java/lang/Throwable" "backtrace" ∈ GW := gw_in (tb3 (i := 155) rfl) rfl
theorem w3_156 : Cond.soleField "java/lang/Throwable" "detailMessage" ∈ GW := gw_in (tb3 (i := 156) rfl) rfl
theorem w3_157 : Cond.soleField "java/lang/Throwable" "cause" ∈ GW := gw_in (tb3 (i := 157) rfl) rfl
theorem w3_158 : Cond.soleField "java/lang/Throwable" "stackTrace" ∈ GW := gw_in (tb3 (i := 158) rfl) rfl
theorem w3_159 : Cond.lays "java/lang/IllegalArgumentException" "java/lang/Throwable" "depth" "I" ∈ GW := gw_in (tb3 (i := 159) rfl) rfl
theorem w3_160 : Cond.soleField "java/lang/Throwable" "depth" ∈ GW := gw_in (tb3 (i := 160) rfl) rfl
theorem w3_161 : Cond.soleField "java/lang/Throwable" "suppressedExceptions" ∈ GW := gw_in (tb3 (i := 161) rfl) rfl
theorem w3_162 : Cond.superclass "java/lang/IllegalArgumentException" "java/lang/RuntimeException" ∈ GW := gw_in (tb3 (i := 162) rfl) rfl
theorem w3_163 : Cond.arrayClass FieldType.byte ∈ GW := gw_in (tb3 (i := 163) rfl) rfl
theorem w3_164 : Cond.methodLink "SpillPlanner" 87 yX7_begin ∈ GW := gw_in (tb3 (i := 164) rfl) rfl
theorem w3_165 : Cond.instanceMethod yX7_begin ∈ GW := gw_in (tb3 (i := 165) rfl) rfl
theorem w3_166 : Cond.selects "SpillPlanner$Program" yX7_begin yX7_begin ∈ GW := gw_in (tb3 (i := 166) rfl) rfl
theorem w3_167 : Cond.code yX7_begin prog_9_method_2_code 3 (Option.none : Option FieldType) ∈ GW := gw_in (tb3 (i := 167) rfl) rfl
theorem w3_168 : Cond.methodLink "SpillPlanner$Program" 26 yX0_begin ∈ GW := gw_in (tb3 (i := 168) rfl) rfl
theorem w3_169 : Cond.methodLink "SpillPlanner$Program" 29 yJ7_fill_53178 ∈ GW := gw_in (tb3 (i := 169) rfl) rfl
theorem w3_170 : Cond.methodLink "SpillPlannerLaw" 110 yL_append ∈ GW := gw_in (tb3 (i := 170) rfl) rfl
theorem w3_171 : Cond.static yL_append ∈ GW := gw_in (tb3 (i := 171) rfl) rfl
theorem w3_172 : Cond.codeWith yL_append method_4_code 8 (Option.some FieldType.int) [(0, 16, 19, 19), (0, 16, 23, 13), (0, 16, 27, 21)] ∈ GW := gw_in (tb3 (i := 172) rfl) rfl
theorem w3_173 : Cond.classLink "SpillPlannerLaw" 19 "java/lang/IndexOutOfBoundsException" ∈ GW := gw_in (tb3 (i := 173) rfl) rfl
theorem w3_174 : Cond.instantiable "java/lang/ArrayIndexOutOfBoundsException" 6 ∈ GW := gw_in (tb3 (i := 174) rfl) rfl
theorem w3_175 : Cond.instanceMethod yJx00060_init_a7421 ∈ GW := gw_in (tb3 (i := 175) rfl) rfl
theorem w3_176 : Cond.code yJx00060_init_a7421 prog_15_method_2_code 2 (Option.none : Option FieldType) ∈ GW := gw_in (tb3 (i := 176) rfl) rfl
theorem w3_177 : Cond.methodLink "java/lang/ArrayIndexOutOfBoundsException" 7 (⟨"java/lang/IndexOutOfBoundsException", "<init>", "(Ljava/lang/String;)V"⟩ : MethodName) ∈ GW := gw_in (tb3 (i := 177) rfl) rfl
theorem w3_178 : Cond.instanceMethod (⟨"java/lang/IndexOutOfBoundsException", "<init>", "(Ljava/lang/String;)V"⟩ : MethodName) ∈ GW := gw_in (tb3 (i := 178) rfl) rfl
theorem w3_179 : Cond.code (⟨"java/lang/IndexOutOfBoundsException", "<init>", "(Ljava/lang/String;)V"⟩ : MethodName) prog_21_method_2_code 2 (Option.none : Option FieldType) ∈ GW := gw_in (tb3 (i := 179) rfl) rfl
theorem w3_180 : Cond.methodLink "java/lang/IndexOutOfBoundsException" 7 (⟨"java/lang/RuntimeException", "<init>", "(Ljava/lang/String;)V"⟩ : MethodName) ∈ GW := gw_in (tb3 (i := 180) rfl) rfl
theorem w3_181 : Cond.lays "java/lang/ArrayIndexOutOfBoundsException" "java/lang/Throwable" "backtrace" "Ljava/lang/Object;" ∈ GW := gw_in (tb3 (i := 181) rfl) rfl
theorem w3_182 : Cond.lays "java/lang/ArrayIndexOutOfBoundsException" "java/lang/Throwable" "detailMessage" "Ljava/lang/String;" ∈ GW := gw_in (tb3 (i := 182) rfl) rfl
theorem w3_183 : Cond.lays "java/lang/ArrayIndexOutOfBoundsException" "java/lang/Throwable" "cause" "Ljava/lang/Throwable;" ∈ GW := gw_in (tb3 (i := 183) rfl) rfl
theorem w3_184 : Cond.lays "java/lang/ArrayIndexOutOfBoundsException" "java/lang/Throwable" "stackTrace" "[Ljava/lang/StackTraceElement;" ∈ GW := gw_in (tb3 (i := 184) rfl) rfl
theorem w3_185 : Cond.lays "java/lang/ArrayIndexOutOfBoundsException" "java/lang/Throwable" "depth" "I" ∈ GW := gw_in (tb3 (i := 185) rfl) rfl
theorem w3_186 : Cond.lays "java/lang/ArrayIndexOutOfBoundsException" "java/lang/Throwable" "suppressedExceptions" "Ljava/util/List;" ∈ GW := gw_in (tb3 (i := 186) rfl) rfl
theorem w3_187 : Cond.superclass "java/lang/ArrayIndexOutOfBoundsException" "java/lang/IndexOutOfBoundsException" ∈ GW := gw_in (tb3 (i := 187) rfl) rfl
theorem w3_188 : Cond.castable "java/lang/ArrayIndexOutOfBoundsException" "java/lang/ArrayIndexOutOfBoundsException" ∈ NW := List.mem_filter.mpr ⟨tb3 (i := 188) rfl, rfl⟩
theorem w3_189 : Cond.declares (⟨"java/lang/IndexOutOfBoundsException", "<init>", "()V"⟩ : MethodName) ∈ NW := List.mem_filter.mpr ⟨tb3 (i := 189) rfl, rfl⟩
theorem w3_190 : Cond.declares (⟨"java/lang/IndexOutOfBoundsException", "<init>", "(Ljava/lang/String;)V"⟩ : MethodName) ∈ NW := List.mem_filter.mpr ⟨tb3 (i := 190) rfl, rfl⟩
theorem w3_191 : Cond.selects "java/lang/ArrayIndexOutOfBoundsException" (⟨"java/lang/Throwable", "fillInStackTrace", "(I)Ljava/lang/Throwable;"⟩ : MethodName) (⟨"java/lang/Throwable", "fillInStackTrace", "(I)Ljava/lang/Throwable;"⟩ : MethodName) ∈ GW := gw_in (tb3 (i := 191) rfl) rfl
theorem w3_192 : Cond.instantiable "java/lang/String" 4 ∈ GW := gw_in (tb3 (i := 192) rfl) rfl
theorem w3_193 : Cond.laysFinal "java/lang/String" "java/lang/String" "value" "[B" ∈ GW := gw_in (tb3 (i := 193) rfl) rfl
theorem w3_194 : Cond.soleField "java/lang/String" "value" ∈ GW := gw_in (tb3 (i := 194) rfl) rfl
theorem w3_195 : Cond.laysFinal "java/lang/String" "java/lang/String" "coder" "B" ∈ GW := gw_in (tb3 (i := 195) rfl) rfl
theorem w3_196 : Cond.soleField "java/lang/String" "coder" ∈ GW := gw_in (tb3 (i := 196) rfl) rfl
theorem w3_197 : Cond.classLink "SpillPlannerLaw" 21 "java/lang/IllegalStateException" ∈ GW := gw_in (tb3 (i := 197) rfl) rfl
theorem w3_198 : Cond.methodLink "SpillPlannerLaw" 15 yX9_append ∈ GW := gw_in (tb3 (i := 198) rfl) rfl
theorem w3_199 : Cond.instanceMethod yX9_append ∈ GW := gw_in (tb3 (i := 199) rfl) rfl
theorem w3_200 : Cond.selects "SpillPlanner" yX9_append yX9_append ∈ GW := gw_in (tb3 (i := 200) rfl) rfl
theorem w3_201 : Cond.code yX9_append prog_1_method_3_code 7 (Option.some FieldType.int) ∈ GW := gw_in (tb3 (i := 201) rfl) rfl
theorem w3_202 : Cond.methodLink "SpillPlanner" 94 yX9_requireBlock ∈ GW := gw_in (tb3 (i := 202) rfl) rfl
theorem w3_204 : Cond.instanceMethod yX9_requireBlock ∈ GW := gw_in (tb3 (i := 204) rfl) rfl
theorem w3_205 : Cond.code yX9_requireBlock prog_1_method_33_code 2 (Option.none : Option FieldType) ∈ GW := gw_in (tb3 (i := 205) rfl) rfl
theorem w3_206 : Cond.classLink "SpillPlanner" 146 "java/lang/IndexOutOfBoundsException" ∈ GW := gw_in (tb3 (i := 206) rfl) rfl
theorem w3_207 : Cond.instantiable "java/lang/IndexOutOfBoundsException" 6 ∈ GW := gw_in (tb3 (i := 207) rfl) rfl
theorem w3_208 : Cond.castable "java/lang/IndexOutOfBoundsException" "java/lang/IndexOutOfBoundsException" ∈ NW := List.mem_filter.mpr ⟨tb3 (i := 208) rfl, rfl⟩
theorem w3_209 : Cond.selects "java/lang/IndexOutOfBoundsException" (⟨"java/lang/Throwable", "fillInStackTrace", "(I)Ljava/lang/Throwable;"⟩ : MethodName) (⟨"java/lang/Throwable", "fillInStackTrace", "(I)Ljava/lang/Throwable;"⟩ : MethodName) ∈ GW := gw_in (tb3 (i := 209) rfl) rfl
theorem w3_210 : Cond.lays "java/lang/IndexOutOfBoundsException" "java/lang/Throwable" "cause" "Ljava/lang/Throwable;" ∈ GW := gw_in (tb3 (i := 210) rfl) rfl
theorem w3_211 : Cond.lays "java/lang/IndexOutOfBoundsException" "java/lang/Throwable" "stackTrace" "[Ljava/lang/StackTraceElement;" ∈ GW := gw_in (tb3 (i := 211) rfl) rfl
theorem w3_212 : Cond.lays "java/lang/IndexOutOfBoundsException" "java/lang/Throwable" "suppressedExceptions" "Ljava/util/List;" ∈ GW := gw_in (tb3 (i := 212) rfl) rfl
theorem w3_213 : Cond.lays "java/lang/IndexOutOfBoundsException" "java/lang/Throwable" "detailMessage" "Ljava/lang/String;" ∈ GW := gw_in (tb3 (i := 213) rfl) rfl
theorem w3_214 : Cond.lays "java/lang/IndexOutOfBoundsException" "java/lang/Throwable" "backtrace" "Ljava/lang/Object;" ∈ GW := gw_in (tb3 (i := 214) rfl) rfl
theorem w3_216 : Cond.methodLink "SpillPlanner" 148 (⟨"java/lang/IndexOutOfBoundsException", "<init>", "(Ljava/lang/String;)V"⟩ : MethodName) ∈ GW := gw_in (tb3 (i := 216) rfl) rfl
theorem w3_217 : Cond.lays "java/lang/IndexOutOfBoundsException" "java/lang/Throwable" "depth" "I" ∈ GW := gw_in (tb3 (i := 217) rfl) rfl
theorem w3_218 : Cond.superclass "java/lang/IndexOutOfBoundsException" "java/lang/RuntimeException" ∈ GW := gw_in (tb3 (i := 218) rfl) rfl
theorem w3_219 : Cond.methodLink "SpillPlanner" 97 yX9_isInstruction ∈ GW := gw_in (tb3 (i := 219) rfl) rfl
theorem w3_220 : Cond.static yX9_isInstruction ∈ GW := gw_in (tb3 (i := 220) rfl) rfl
theorem w3_221 : Cond.code yX9_isInstruction prog_1_method_39_code 4 (Option.some FieldType.boolean) ∈ GW := gw_in (tb3 (i := 221) rfl) rfl
theorem w3_222 : Cond.methodLink "SpillPlanner" 365 yX9_isVariable ∈ GW := gw_in (tb3 (i := 222) rfl) rfl
theorem w3_223 : Cond.static yX9_isVariable ∈ GW := gw_in (tb3 (i := 223) rfl) rfl
theorem w3_224 : Cond.code yX9_isVariable prog_1_method_38_code 1 (Option.some FieldType.boolean) ∈ GW := gw_in (tb3 (i := 224) rfl) rfl
theorem w3_226 : Cond.classLink "SpillPlanner" 110 "java/lang/IllegalStateException" ∈ GW := gw_in (tb3 (i := 226) rfl) rfl
theorem w3_227 : Cond.instantiable "java/lang/IllegalStateException" 6 ∈ GW := gw_in (tb3 (i := 227) rfl) rfl
theorem w3_228 : Cond.castable "java/lang/IllegalStateException" "java/lang/IllegalStateException" ∈ NW := List.mem_filter.mpr ⟨tb3 (i := 228) rfl, rfl⟩
theorem w3_229 : Cond.selects "java/lang/IllegalStateException" (⟨"java/lang/Throwable", "fillInStackTrace", "(I)Ljava/lang/Throwable;"⟩ : MethodName) (⟨"java/lang/Throwable", "fillInStackTrace", "(I)Ljava/lang/Throwable;"⟩ : MethodName) ∈ GW := gw_in (tb3 (i := 229) rfl) rfl
theorem w3_230 : Cond.lays "java/lang/IllegalStateException" "java/lang/Throwable" "cause" "Ljava/lang/Throwable;" ∈ GW := gw_in (tb3 (i := 230) rfl) rfl
theorem w3_231 : Cond.lays "java/lang/IllegalStateException" "java/lang/Throwable" "stackTrace" "[Ljava/lang/StackTraceElement;" ∈ GW := gw_in (tb3 (i := 231) rfl) rfl
theorem w3_232 : Cond.lays "java/lang/IllegalStateException" "java/lang/Throwable" "suppressedExceptions" "Ljava/util/List;" ∈ GW := gw_in (tb3 (i := 232) rfl) rfl
theorem w3_233 : Cond.lays "java/lang/IllegalStateException" "java/lang/Throwable" "detailMessage" "Ljava/lang/String;" ∈ GW := gw_in (tb3 (i := 233) rfl) rfl
theorem w3_234 : Cond.lays "java/lang/IllegalStateException" "java/lang/Throwable" "backtrace" "Ljava/lang/Object;" ∈ GW := gw_in (tb3 (i := 234) rfl) rfl
theorem w3_236 : Cond.methodLink "SpillPlanner" 114 (⟨"java/lang/IllegalStateException", "<init>", "(Ljava/lang/String;)V"⟩ : MethodName) ∈ GW := gw_in (tb3 (i := 236) rfl) rfl
theorem w3_237 : Cond.instanceMethod (⟨"java/lang/IllegalStateException", "<init>", "(Ljava/lang/String;)V"⟩ : MethodName) ∈ GW := gw_in (tb3 (i := 237) rfl) rfl
theorem w3_238 : Cond.code (⟨"java/lang/IllegalStateException", "<init>", "(Ljava/lang/String;)V"⟩ : MethodName) prog_20_method_2_code 2 (Option.none : Option FieldType) ∈ GW := gw_in (tb3 (i := 238) rfl) rfl
theorem w3_239 : Cond.methodLink "java/lang/IllegalStateException" 7 (⟨"java/lang/RuntimeException", "<init>", "(Ljava/lang/String;)V"⟩ : MethodName) ∈ GW := gw_in (tb3 (i := 239) rfl) rfl
theorem w4_0 : Cond.lays "java/lang/IllegalStateException" "java/lang/Throwable" "depth" "I" ∈ GW := gw_in (tb4 (i := 0) rfl) rfl
theorem w4_1 : Cond.superclass "java/lang/IllegalStateException" "java/lang/RuntimeException" ∈ GW := gw_in (tb4 (i := 1) rfl) rfl
theorem w4_2 : Cond.methodLink "SpillPlanner" 115 yX0_add ∈ GW := gw_in (tb4 (i := 2) rfl) rfl
theorem w4_3 : Cond.instanceMethod yX0_add ∈ GW := gw_in (tb4 (i := 3) rfl) rfl
theorem w4_4 : Cond.selects "SpillPlanner$Block" yX0_add yX0_add ∈ GW := gw_in (tb4 (i := 4) rfl) rfl
theorem w4_5 : Cond.code yX0_add prog_2_method_3_code 5 (Option.none : Option FieldType) ∈ GW := gw_in (tb4 (i := 5) rfl) rfl
theorem w4_6 : Cond.methodLink "SpillPlannerLaw" 114 yL_removeLast ∈ GW := gw_in (tb4 (i := 6) rfl) rfl
theorem w4_7 : Cond.static yL_removeLast ∈ GW := gw_in (tb4 (i := 7) rfl) rfl
theorem w4_8 : Cond.codeWith yL_removeLast method_5_code 4 (Option.some FieldType.int) [(0, 9, 12, 19), (0, 9, 15, 26)] ∈ GW := gw_in (tb4 (i := 8) rfl) rfl
theorem w4_9 : Cond.classLink "SpillPlannerLaw" 26 "java/util/NoSuchElementException" ∈ GW := gw_in (tb4 (i := 9) rfl) rfl
theorem w4_10 : Cond.methodLink "SpillPlannerLaw" 23 yX9_removeLast ∈ GW := gw_in (tb4 (i := 10) rfl) rfl
theorem w4_11 : Cond.instanceMethod yX9_removeLast ∈ GW := gw_in (tb4 (i := 11) rfl) rfl
theorem w4_12 : Cond.selects "SpillPlanner" yX9_removeLast yX9_removeLast ∈ GW := gw_in (tb4 (i := 12) rfl) rfl
theorem w4_13 : Cond.code yX9_removeLast prog_1_method_4_code 3 (Option.some FieldType.int) ∈ GW := gw_in (tb4 (i := 13) rfl) rfl
theorem w4_14 : Cond.classLink "SpillPlanner" 119 "java/util/NoSuchElementException" ∈ GW := gw_in (tb4 (i := 14) rfl) rfl
theorem w4_15 : Cond.instantiable "java/util/NoSuchElementException" 6 ∈ GW := gw_in (tb4 (i := 15) rfl) rfl
theorem w4_16 : Cond.castable "java/util/NoSuchElementException" "java/util/NoSuchElementException" ∈ NW := List.mem_filter.mpr ⟨tb4 (i := 16) rfl, rfl⟩
theorem w4_17 : Cond.selects "java/util/NoSuchElementException" (⟨"java/lang/Throwable", "fillInStackTrace", "(I)Ljava/lang/Throwable;"⟩ : MethodName) (⟨"java/lang/Throwable", "fillInStackTrace", "(I)Ljava/lang/Throwable;"⟩ : MethodName) ∈ GW := gw_in (tb4 (i := 17) rfl) rfl
theorem w4_18 : Cond.lays "java/util/NoSuchElementException" "java/lang/Throwable" "cause" "Ljava/lang/Throwable;" ∈ GW := gw_in (tb4 (i := 18) rfl) rfl
theorem w4_19 : Cond.lays "java/util/NoSuchElementException" "java/lang/Throwable" "stackTrace" "[Ljava/lang/StackTraceElement;" ∈ GW := gw_in (tb4 (i := 19) rfl) rfl
theorem w4_20 : Cond.lays "java/util/NoSuchElementException" "java/lang/Throwable" "suppressedExceptions" "Ljava/util/List;" ∈ GW := gw_in (tb4 (i := 20) rfl) rfl
theorem w4_21 : Cond.lays "java/util/NoSuchElementException" "java/lang/Throwable" "detailMessage" "Ljava/lang/String;" ∈ GW := gw_in (tb4 (i := 21) rfl) rfl
theorem w4_22 : Cond.lays "java/util/NoSuchElementException" "java/lang/Throwable" "backtrace" "Ljava/lang/Object;" ∈ GW := gw_in (tb4 (i := 22) rfl) rfl
theorem w4_24 : Cond.methodLink "SpillPlanner" 123 (⟨"java/util/NoSuchElementException", "<init>", "(Ljava/lang/String;)V"⟩ : MethodName) ∈ GW := gw_in (tb4 (i := 24) rfl) rfl
theorem w4_25 : Cond.instanceMethod (⟨"java/util/NoSuchElementException", "<init>", "(Ljava/lang/String;)V"⟩ : MethodName) ∈ GW := gw_in (tb4 (i := 25) rfl) rfl
theorem w4_26 : Cond.code (⟨"java/util/NoSuchElementException", "<init>", "(Ljava/lang/String;)V"⟩ : MethodName) prog_34_method_4_code 2 (Option.none : Option FieldType) ∈ GW := gw_in (tb4 (i := 26) rfl) rfl
theorem w4_27 : Cond.methodLink "java/util/NoSuchElementException" 13 (⟨"java/lang/RuntimeException", "<init>", "(Ljava/lang/String;)V"⟩ : MethodName) ∈ GW := gw_in (tb4 (i := 27) rfl) rfl
theorem w4_28 : Cond.lays "java/util/NoSuchElementException" "java/lang/Throwable" "depth" "I" ∈ GW := gw_in (tb4 (i := 28) rfl) rfl
theorem w4_29 : Cond.superclass "java/util/NoSuchElementException" "java/lang/RuntimeException" ∈ GW := gw_in (tb4 (i := 29) rfl) rfl
theorem w4_30 : Cond.methodLink "SpillPlannerLaw" 117 yL_setEnd ∈ GW := gw_in (tb4 (i := 30) rfl) rfl
theorem w4_31 : Cond.static yL_setEnd ∈ GW := gw_in (tb4 (i := 31) rfl) rfl
theorem w4_32 : Cond.codeWith yL_setEnd method_6_code 8 (Option.some FieldType.int) [(0, 16, 19, 19), (0, 16, 23, 13)] ∈ GW := gw_in (tb4 (i := 32) rfl) rfl
theorem w4_33 : Cond.methodLink "SpillPlannerLaw" 28 yX9_setEnd ∈ GW := gw_in (tb4 (i := 33) rfl) rfl
theorem w4_34 : Cond.instanceMethod yX9_setEnd ∈ GW := gw_in (tb4 (i := 34) rfl) rfl
theorem w4_35 : Cond.selects "SpillPlanner" yX9_setEnd yX9_setEnd ∈ GW := gw_in (tb4 (i := 35) rfl) rfl
theorem w4_36 : Cond.code yX9_setEnd prog_1_method_5_code 8 (Option.some FieldType.int) ∈ GW := gw_in (tb4 (i := 36) rfl) rfl
theorem w4_38 : Cond.methodLink "SpillPlanner" 129 yX9_requireVariable ∈ GW := gw_in (tb4 (i := 38) rfl) rfl
theorem w4_40 : Cond.instanceMethod yX9_requireVariable ∈ GW := gw_in (tb4 (i := 40) rfl) rfl
theorem w4_41 : Cond.code yX9_requireVariable prog_1_method_34_code 2 (Option.none : Option FieldType) ∈ GW := gw_in (tb4 (i := 41) rfl) rfl
theorem w4_43 : Cond.methodLink "SpillPlanner" 135 yX0_finish ∈ GW := gw_in (tb4 (i := 43) rfl) rfl
theorem w4_44 : Cond.methodLink "SpillPlannerLaw" 120 yL_setFrequency ∈ GW := gw_in (tb4 (i := 44) rfl) rfl
theorem w4_45 : Cond.static yL_setFrequency ∈ GW := gw_in (tb4 (i := 45) rfl) rfl
theorem w4_46 : Cond.codeWith yL_setFrequency method_7_code 5 (Option.some FieldType.int) [(0, 10, 13, 19), (0, 10, 17, 13)] ∈ GW := gw_in (tb4 (i := 46) rfl) rfl
theorem w4_47 : Cond.methodLink "SpillPlannerLaw" 31 yX9_setFrequency ∈ GW := gw_in (tb4 (i := 47) rfl) rfl
theorem w4_48 : Cond.instanceMethod yX9_setFrequency ∈ GW := gw_in (tb4 (i := 48) rfl) rfl
theorem w4_49 : Cond.selects "SpillPlanner" yX9_setFrequency yX9_setFrequency ∈ GW := gw_in (tb4 (i := 49) rfl) rfl
theorem w4_50 : Cond.code yX9_setFrequency prog_1_method_6_code 5 (Option.some FieldType.int) ∈ GW := gw_in (tb4 (i := 50) rfl) rfl
theorem w4_52 : Cond.methodLink "SpillPlannerLaw" 124 yL_setInitial ∈ GW := gw_in (tb4 (i := 52) rfl) rfl
theorem w4_53 : Cond.static yL_setInitial ∈ GW := gw_in (tb4 (i := 53) rfl) rfl
theorem w4_54 : Cond.codeWith yL_setInitial method_8_code 5 (Option.some FieldType.int) [(0, 10, 13, 13)] ∈ GW := gw_in (tb4 (i := 54) rfl) rfl
theorem w4_55 : Cond.methodLink "SpillPlannerLaw" 35 yX9_setInitial ∈ GW := gw_in (tb4 (i := 55) rfl) rfl
theorem w4_56 : Cond.instanceMethod yX9_setInitial ∈ GW := gw_in (tb4 (i := 56) rfl) rfl
theorem w4_57 : Cond.selects "SpillPlanner" yX9_setInitial yX9_setInitial ∈ GW := gw_in (tb4 (i := 57) rfl) rfl
theorem w4_58 : Cond.code yX9_setInitial prog_1_method_7_code 4 (Option.some FieldType.int) ∈ GW := gw_in (tb4 (i := 58) rfl) rfl
theorem w4_59 : Cond.methodLink "SpillPlannerLaw" 127 yL_instruction ∈ GW := gw_in (tb4 (i := 59) rfl) rfl
theorem w4_60 : Cond.static yL_instruction ∈ GW := gw_in (tb4 (i := 60) rfl) rfl
theorem w4_61 : Cond.codeWith yL_instruction method_9_code 6 (Option.some FieldType.int) [(0, 12, 15, 19), (0, 12, 19, 13)] ∈ GW := gw_in (tb4 (i := 61) rfl) rfl
theorem w4_62 : Cond.methodLink "SpillPlannerLaw" 38 yX9_instruction ∈ GW := gw_in (tb4 (i := 62) rfl) rfl
theorem w4_63 : Cond.instanceMethod yX9_instruction ∈ GW := gw_in (tb4 (i := 63) rfl) rfl
theorem w4_64 : Cond.selects "SpillPlanner" yX9_instruction yX9_instruction ∈ GW := gw_in (tb4 (i := 64) rfl) rfl
theorem w4_65 : Cond.code yX9_instruction prog_1_method_8_code 5 (Option.some FieldType.int) ∈ GW := gw_in (tb4 (i := 65) rfl) rfl
theorem w4_67 : Cond.methodLink "SpillPlannerLaw" 131 yL_block ∈ GW := gw_in (tb4 (i := 67) rfl) rfl
theorem w4_68 : Cond.static yL_block ∈ GW := gw_in (tb4 (i := 68) rfl) rfl
theorem w4_69 : Cond.codeWith yL_block method_10_code 5 (Option.some FieldType.int) [(0, 10, 13, 19), (0, 10, 17, 13)] ∈ GW := gw_in (tb4 (i := 69) rfl) rfl
theorem w4_70 : Cond.methodLink "SpillPlannerLaw" 42 yX9_block ∈ GW := gw_in (tb4 (i := 70) rfl) rfl
theorem w4_71 : Cond.instanceMethod yX9_block ∈ GW := gw_in (tb4 (i := 71) rfl) rfl
theorem w4_72 : Cond.selects "SpillPlanner" yX9_block yX9_block ∈ GW := gw_in (tb4 (i := 72) rfl) rfl
theorem w4_73 : Cond.code yX9_block prog_1_method_9_code 4 (Option.some FieldType.int) ∈ GW := gw_in (tb4 (i := 73) rfl) rfl
theorem w4_75 : Cond.methodLink "SpillPlannerLaw" 134 yL_live ∈ GW := gw_in (tb4 (i := 75) rfl) rfl
theorem w4_76 : Cond.static yL_live ∈ GW := gw_in (tb4 (i := 76) rfl) rfl
theorem w4_77 : Cond.codeWith yL_live method_11_code 5 (Option.some FieldType.int) [(0, 10, 13, 19)] ∈ GW := gw_in (tb4 (i := 77) rfl) rfl
theorem w4_78 : Cond.methodLink "SpillPlannerLaw" 45 yX9_live ∈ GW := gw_in (tb4 (i := 78) rfl) rfl
theorem w4_79 : Cond.instanceMethod yX9_live ∈ GW := gw_in (tb4 (i := 79) rfl) rfl
theorem w4_80 : Cond.selects "SpillPlanner" yX9_live yX9_live ∈ GW := gw_in (tb4 (i := 80) rfl) rfl
theorem w4_81 : Cond.code yX9_live prog_1_method_10_code 3 (Option.some FieldType.int) ∈ GW := gw_in (tb4 (i := 81) rfl) rfl
theorem w4_83 : Cond.methodLink "SpillPlannerLaw" 137 yL_conflicts ∈ GW := gw_in (tb4 (i := 83) rfl) rfl
theorem w4_84 : Cond.static yL_conflicts ∈ GW := gw_in (tb4 (i := 84) rfl) rfl
theorem w4_85 : Cond.codeWith yL_conflicts method_12_code 4 (Option.some FieldType.int) [(0, 9, 12, 13)] ∈ GW := gw_in (tb4 (i := 85) rfl) rfl
theorem w4_86 : Cond.methodLink "SpillPlannerLaw" 48 yX9_conflicts ∈ GW := gw_in (tb4 (i := 86) rfl) rfl
theorem w4_87 : Cond.instanceMethod yX9_conflicts ∈ GW := gw_in (tb4 (i := 87) rfl) rfl
theorem w4_88 : Cond.selects "SpillPlanner" yX9_conflicts yX9_conflicts ∈ GW := gw_in (tb4 (i := 88) rfl) rfl
theorem w4_89 : Cond.code yX9_conflicts prog_1_method_11_code 2 (Option.some FieldType.int) ∈ GW := gw_in (tb4 (i := 89) rfl) rfl
theorem w4_90 : Cond.methodLink "SpillPlannerLaw" 148 yL_loop ∈ GW := gw_in (tb4 (i := 90) rfl) rfl
theorem w4_91 : Cond.static yL_loop ∈ GW := gw_in (tb4 (i := 91) rfl) rfl
theorem w4_92 : Cond.codeWith yL_loop method_13_code 5 (Option.some FieldType.int) [(0, 10, 13, 19), (0, 10, 17, 13)] ∈ GW := gw_in (tb4 (i := 92) rfl) rfl
theorem w4_93 : Cond.methodLink "SpillPlannerLaw" 51 yX9_loop ∈ GW := gw_in (tb4 (i := 93) rfl) rfl
theorem w4_94 : Cond.instanceMethod yX9_loop ∈ GW := gw_in (tb4 (i := 94) rfl) rfl
theorem w4_95 : Cond.selects "SpillPlanner" yX9_loop yX9_loop ∈ GW := gw_in (tb4 (i := 95) rfl) rfl
theorem w4_96 : Cond.code yX9_loop prog_1_method_14_code 3 (Option.some FieldType.int) ∈ GW := gw_in (tb4 (i := 96) rfl) rfl
theorem w4_97 : Cond.methodLink "SpillPlanner" 189 yX9_requireLoop ∈ GW := gw_in (tb4 (i := 97) rfl) rfl
theorem w4_99 : Cond.instanceMethod yX9_requireLoop ∈ GW := gw_in (tb4 (i := 99) rfl) rfl
theorem w4_100 : Cond.code yX9_requireLoop prog_1_method_35_code 2 (Option.none : Option FieldType) ∈ GW := gw_in (tb4 (i := 100) rfl) rfl
theorem w4_102 : Cond.methodLink "SpillPlanner" 198 yX2_depth ∈ GW := gw_in (tb4 (i := 102) rfl) rfl
theorem w4_103 : Cond.instanceMethod yX2_depth ∈ GW := gw_in (tb4 (i := 103) rfl) rfl
theorem w4_104 : Cond.selects "SpillPlanner$LoopFinder" yX2_depth yX2_depth ∈ GW := gw_in (tb4 (i := 104) rfl) rfl
theorem w4_105 : Cond.code yX2_depth prog_4_method_7_code 4 (Option.some FieldType.int) ∈ GW := gw_in (tb4 (i := 105) rfl) rfl
theorem w4_106 : Cond.methodLink "SpillPlanner$LoopFinder" 56 yX2_isWithin ∈ GW := gw_in (tb4 (i := 106) rfl) rfl
theorem w4_107 : Cond.instanceMethod yX2_isWithin ∈ GW := gw_in (tb4 (i := 107) rfl) rfl
theorem w4_108 : Cond.selects "SpillPlanner$LoopFinder" yX2_isWithin yX2_isWithin ∈ GW := gw_in (tb4 (i := 108) rfl) rfl
theorem w4_109 : Cond.code yX2_isWithin prog_4_method_6_code 3 (Option.some FieldType.boolean) ∈ GW := gw_in (tb4 (i := 109) rfl) rfl
theorem w4_111 : Cond.methodLink "SpillPlannerLaw" 151 yL_cost ∈ GW := gw_in (tb4 (i := 111) rfl) rfl
theorem w4_112 : Cond.static yL_cost ∈ GW := gw_in (tb4 (i := 112) rfl) rfl
theorem w4_113 : Cond.codeWith yL_cost method_14_code 5 (Option.some FieldType.int) [(0, 10, 13, 13), (0, 10, 17, 58)] ∈ GW := gw_in (tb4 (i := 113) rfl) rfl
theorem w4_114 : Cond.classLink "SpillPlannerLaw" 58 "java/lang/UnsupportedOperationException" ∈ GW := gw_in (tb4 (i := 114) rfl) rfl
theorem w4_115 : Cond.methodLink "SpillPlannerLaw" 54 yX9_cost ∈ GW := gw_in (tb4 (i := 115) rfl) rfl
theorem w4_116 : Cond.instanceMethod yX9_cost ∈ GW := gw_in (tb4 (i := 116) rfl) rfl
theorem w4_117 : Cond.selects "SpillPlanner" yX9_cost yX9_cost ∈ GW := gw_in (tb4 (i := 117) rfl) rfl
theorem w4_118 : Cond.code yX9_cost prog_1_method_15_code 3 (Option.some FieldType.int) ∈ GW := gw_in (tb4 (i := 118) rfl) rfl
theorem w4_119 : Cond.methodLink "SpillPlanner" 204 yX1_memoryCost ∈ GW := gw_in (tb4 (i := 119) rfl) rfl
theorem w4_120 : Cond.instanceMethod yX1_memoryCost ∈ GW := gw_in (tb4 (i := 120) rfl) rfl
theorem w4_121 : Cond.selects "SpillPlanner$Facts" yX1_memoryCost yX1_memoryCost ∈ GW := gw_in (tb4 (i := 121) rfl) rfl
theorem w4_122 : Cond.code yX1_memoryCost prog_3_method_15_code 4 (Option.some FieldType.int) ∈ GW := gw_in (tb4 (i := 122) rfl) rfl
theorem w4_123 : Cond.methodLink "SpillPlanner$Facts" 121 yX1_mentionWeight ∈ GW := gw_in (tb4 (i := 123) rfl) rfl
theorem w4_124 : Cond.instanceMethod yX1_mentionWeight ∈ GW := gw_in (tb4 (i := 124) rfl) rfl
theorem w4_125 : Cond.selects "SpillPlanner$Facts" yX1_mentionWeight yX1_mentionWeight ∈ GW := gw_in (tb4 (i := 125) rfl) rfl
theorem w4_126 : Cond.code yX1_mentionWeight prog_3_method_16_code 4 (Option.some FieldType.int) ∈ GW := gw_in (tb4 (i := 126) rfl) rfl
theorem w4_127 : Cond.methodLink "SpillPlanner" 207 yX1_canRecompute ∈ GW := gw_in (tb4 (i := 127) rfl) rfl
theorem w4_128 : Cond.instanceMethod yX1_canRecompute ∈ GW := gw_in (tb4 (i := 128) rfl) rfl
theorem w4_129 : Cond.selects "SpillPlanner$Facts" yX1_canRecompute yX1_canRecompute ∈ GW := gw_in (tb4 (i := 129) rfl) rfl
theorem w4_130 : Cond.code yX1_canRecompute prog_3_method_17_code 4 (Option.some FieldType.boolean) ∈ GW := gw_in (tb4 (i := 130) rfl) rfl
theorem w4_131 : Cond.classLink "SpillPlanner" 211 "java/lang/UnsupportedOperationException" ∈ GW := gw_in (tb4 (i := 131) rfl) rfl
theorem w4_132 : Cond.instantiable "java/lang/UnsupportedOperationException" 6 ∈ GW := gw_in (tb4 (i := 132) rfl) rfl
theorem w4_133 : Cond.castable "java/lang/UnsupportedOperationException" "java/lang/UnsupportedOperationException" ∈ NW := List.mem_filter.mpr ⟨tb4 (i := 133) rfl, rfl⟩
theorem w4_134 : Cond.selects "java/lang/UnsupportedOperationException" (⟨"java/lang/Throwable", "fillInStackTrace", "(I)Ljava/lang/Throwable;"⟩ : MethodName) (⟨"java/lang/Throwable", "fillInStackTrace", "(I)Ljava/lang/Throwable;"⟩ : MethodName) ∈ GW := gw_in (tb4 (i := 134) rfl) rfl
theorem w4_135 : Cond.lays "java/lang/UnsupportedOperationException" "java/lang/Throwable" "cause" "Ljava/lang/Throwable;" ∈ GW := gw_in (tb4 (i := 135) rfl) rfl
theorem w4_136 : Cond.lays "java/lang/UnsupportedOperationException" "java/lang/Throwable" "stackTrace" "[Ljava/lang/StackTraceElement;" ∈ GW := gw_in (tb4 (i := 136) rfl) rfl
theorem w4_137 : Cond.lays "java/lang/UnsupportedOperationException" "java/lang/Throwable" "suppressedExceptions" "Ljava/util/List;" ∈ GW := gw_in (tb4 (i := 137) rfl) rfl
theorem w4_138 : Cond.lays "java/lang/UnsupportedOperationException" "java/lang/Throwable" "detailMessage" "Ljava/lang/String;" ∈ GW := gw_in (tb4 (i := 138) rfl) rfl
theorem w4_139 : Cond.lays "java/lang/UnsupportedOperationException" "java/lang/Throwable" "backtrace" "Ljava/lang/Object;" ∈ GW := gw_in (tb4 (i := 139) rfl) rfl
theorem w4_141 : Cond.methodLink "SpillPlanner" 215 (⟨"java/lang/UnsupportedOperationException", "<init>", "(Ljava/lang/String;)V"⟩ : MethodName) ∈ GW := gw_in (tb4 (i := 141) rfl) rfl
theorem w4_142 : Cond.instanceMethod (⟨"java/lang/UnsupportedOperationException", "<init>", "(Ljava/lang/String;)V"⟩ : MethodName) ∈ GW := gw_in (tb4 (i := 142) rfl) rfl
theorem w4_143 : Cond.code (⟨"java/lang/UnsupportedOperationException", "<init>", "(Ljava/lang/String;)V"⟩ : MethodName) prog_30_method_2_code 2 (Option.none : Option FieldType) ∈ GW := gw_in (tb4 (i := 143) rfl) rfl
theorem w4_144 : Cond.methodLink "java/lang/UnsupportedOperationException" 7 (⟨"java/lang/RuntimeException", "<init>", "(Ljava/lang/String;)V"⟩ : MethodName) ∈ GW := gw_in (tb4 (i := 144) rfl) rfl
theorem w4_145 : Cond.lays "java/lang/UnsupportedOperationException" "java/lang/Throwable" "depth" "I" ∈ GW := gw_in (tb4 (i := 145) rfl) rfl
theorem w4_146 : Cond.superclass "java/lang/UnsupportedOperationException" "java/lang/RuntimeException" ∈ GW := gw_in (tb4 (i := 146) rfl) rfl
theorem w4_147 : Cond.methodLink "SpillPlanner" 216 yX1_recomputingCost ∈ GW := gw_in (tb4 (i := 147) rfl) rfl
theorem w4_148 : Cond.instanceMethod yX1_recomputingCost ∈ GW := gw_in (tb4 (i := 148) rfl) rfl
theorem w4_149 : Cond.selects "SpillPlanner$Facts" yX1_recomputingCost yX1_recomputingCost ∈ GW := gw_in (tb4 (i := 149) rfl) rfl
theorem w4_150 : Cond.code yX1_recomputingCost prog_3_method_18_code 4 (Option.some FieldType.int) ∈ GW := gw_in (tb4 (i := 150) rfl) rfl
theorem w4_151 : Cond.methodLink "SpillPlannerLaw" 155 yL_plan ∈ GW := gw_in (tb4 (i := 151) rfl) rfl
theorem w4_152 : Cond.static yL_plan ∈ GW := gw_in (tb4 (i := 152) rfl) rfl
theorem w4_153 : Cond.codeWith yL_plan method_15_code 5 (Option.some FieldType.int) [(0, 10, 13, 13)] ∈ GW := gw_in (tb4 (i := 153) rfl) rfl
theorem w4_154 : Cond.methodLink "SpillPlannerLaw" 60 yX9_plan ∈ GW := gw_in (tb4 (i := 154) rfl) rfl
theorem w4_155 : Cond.instanceMethod yX9_plan ∈ GW := gw_in (tb4 (i := 155) rfl) rfl
theorem w4_156 : Cond.selects "SpillPlanner" yX9_plan yX9_plan ∈ GW := gw_in (tb4 (i := 156) rfl) rfl
theorem w4_157 : Cond.code yX9_plan prog_1_method_16_code 3 (Option.some FieldType.int) ∈ GW := gw_in (tb4 (i := 157) rfl) rfl
theorem w4_159 : Cond.methodLink "SpillPlanner" 221 yX5_make ∈ GW := gw_in (tb4 (i := 159) rfl) rfl
theorem w4_160 : Cond.instanceMethod yX5_make ∈ GW := gw_in (tb4 (i := 160) rfl) rfl
theorem w4_161 : Cond.selects "SpillPlanner$Plan" yX5_make yX5_make ∈ GW := gw_in (tb4 (i := 161) rfl) rfl
theorem w4_162 : Cond.code yX5_make prog_7_method_2_code 4 (Option.none : Option FieldType) ∈ GW := gw_in (tb4 (i := 162) rfl) rfl
theorem w4_163 : Cond.methodLink "SpillPlanner$Plan" 50 yX5_placeUsedInRegisters ∈ GW := gw_in (tb4 (i := 163) rfl) rfl
theorem w4_165 : Cond.instanceMethod yX5_placeUsedInRegisters ∈ GW := gw_in (tb4 (i := 165) rfl) rfl
theorem w4_166 : Cond.code yX5_placeUsedInRegisters prog_7_method_3_code 3 (Option.none : Option FieldType) ∈ GW := gw_in (tb4 (i := 166) rfl) rfl
theorem w4_167 : Cond.methodLink "SpillPlanner$Plan" 79 yX1_usedVariables ∈ GW := gw_in (tb4 (i := 167) rfl) rfl
theorem w4_168 : Cond.methodLinkNest "SpillPlanner$Plan" 83 yX9_has "SpillPlanner" ∈ NW := List.mem_filter.mpr ⟨tb4 (i := 168) rfl, rfl⟩
theorem w4_169 : Cond.methodLink "SpillPlanner$Plan" 53 yX5_variablesAt ∈ GW := gw_in (tb4 (i := 169) rfl) rfl
theorem w4_170 : Cond.instanceMethod yX5_variablesAt ∈ GW := gw_in (tb4 (i := 170) rfl) rfl
theorem w4_171 : Cond.selects "SpillPlanner$Plan" yX5_variablesAt yX5_variablesAt ∈ GW := gw_in (tb4 (i := 171) rfl) rfl
theorem w4_172 : Cond.code yX5_variablesAt prog_7_method_8_code 4 (Option.some FieldType.int) ∈ GW := gw_in (tb4 (i := 172) rfl) rfl
theorem w4_173 : Cond.methodLinkNest "SpillPlanner$Plan" 62 yX9_colourGreedily "SpillPlanner" ∈ NW := List.mem_filter.mpr ⟨tb4 (i := 173) rfl, rfl⟩
theorem w4_174 : Cond.methodLinkNest "SpillPlanner$Plan" 66 yX9_numbersInUse "SpillPlanner" ∈ NW := List.mem_filter.mpr ⟨tb4 (i := 174) rfl, rfl⟩
theorem w4_175 : Cond.methodLink "SpillPlanner$Plan" 70 yX5_takeOutOne ∈ GW := gw_in (tb4 (i := 175) rfl) rfl
theorem w4_177 : Cond.instanceMethod yX5_takeOutOne ∈ GW := gw_in (tb4 (i := 177) rfl) rfl
theorem w4_178 : Cond.code yX5_takeOutOne prog_7_method_4_code 7 (Option.none : Option FieldType) ∈ GW := gw_in (tb4 (i := 178) rfl) rfl
theorem w4_179 : Cond.methodLink "SpillPlanner$Plan" 87 yX5_firstOverRegisters ∈ GW := gw_in (tb4 (i := 179) rfl) rfl
theorem w4_181 : Cond.instanceMethod yX5_firstOverRegisters ∈ GW := gw_in (tb4 (i := 181) rfl) rfl
theorem w4_182 : Cond.code yX5_firstOverRegisters prog_7_method_5_code 2 (Option.some FieldType.int) ∈ GW := gw_in (tb4 (i := 182) rfl) rfl
theorem w4_183 : Cond.methodLink "SpillPlanner$Plan" 90 yX5_outsideCost ∈ GW := gw_in (tb4 (i := 183) rfl) rfl
theorem w4_185 : Cond.instanceMethod yX5_outsideCost ∈ GW := gw_in (tb4 (i := 185) rfl) rfl
theorem w4_186 : Cond.code yX5_outsideCost prog_7_method_7_code 2 (Option.some FieldType.int) ∈ GW := gw_in (tb4 (i := 186) rfl) rfl
theorem w4_187 : Cond.methodLink "SpillPlanner$Plan" 93 yX5_wouldBeRecomputed ∈ GW := gw_in (tb4 (i := 187) rfl) rfl
theorem w4_189 : Cond.instanceMethod yX5_wouldBeRecomputed ∈ GW := gw_in (tb4 (i := 189) rfl) rfl
theorem w4_190 : Cond.code yX5_wouldBeRecomputed prog_7_method_6_code 2 (Option.some FieldType.boolean) ∈ GW := gw_in (tb4 (i := 190) rfl) rfl
theorem w4_191 : Cond.methodLink "SpillPlanner$Plan" 97 yX1_canRecompute ∈ GW := gw_in (tb4 (i := 191) rfl) rfl
theorem w4_192 : Cond.methodLink "SpillPlanner$Plan" 100 yX1_recomputingCost ∈ GW := gw_in (tb4 (i := 192) rfl) rfl
theorem w4_193 : Cond.methodLink "SpillPlanner$Plan" 103 yX1_memoryCost ∈ GW := gw_in (tb4 (i := 193) rfl) rfl
theorem w4_194 : Cond.methodLink "SpillPlanner$Plan" 73 yX5_surveyLoops ∈ GW := gw_in (tb4 (i := 194) rfl) rfl
theorem w4_196 : Cond.instanceMethod yX5_surveyLoops ∈ GW := gw_in (tb4 (i := 196) rfl) rfl
theorem w4_197 : Cond.code yX5_surveyLoops prog_7_method_12_code 3 (Option.none : Option FieldType) ∈ GW := gw_in (tb4 (i := 197) rfl) rfl
theorem w4_198 : Cond.methodLink "SpillPlanner$Plan" 124 yX2_contains ∈ GW := gw_in (tb4 (i := 198) rfl) rfl
theorem w4_199 : Cond.instanceMethod yX2_contains ∈ GW := gw_in (tb4 (i := 199) rfl) rfl
theorem w4_200 : Cond.selects "SpillPlanner$LoopFinder" yX2_contains yX2_contains ∈ GW := gw_in (tb4 (i := 200) rfl) rfl
theorem w4_201 : Cond.code yX2_contains prog_4_method_8_code 3 (Option.some FieldType.boolean) ∈ GW := gw_in (tb4 (i := 201) rfl) rfl
theorem w4_202 : Cond.methodLink "SpillPlanner$Plan" 127 yX1_liveAtBeginning ∈ GW := gw_in (tb4 (i := 202) rfl) rfl
theorem w4_203 : Cond.methodLink "SpillPlanner$Plan" 130 yX1_mentionedIn ∈ GW := gw_in (tb4 (i := 203) rfl) rfl
theorem w4_204 : Cond.methodLink "SpillPlanner$Plan" 133 yX1_definedIn ∈ GW := gw_in (tb4 (i := 204) rfl) rfl
theorem w4_205 : Cond.methodLink "SpillPlanner$Plan" 76 yX5_promoteAll ∈ GW := gw_in (tb4 (i := 205) rfl) rfl
theorem w4_207 : Cond.instanceMethod yX5_promoteAll ∈ GW := gw_in (tb4 (i := 207) rfl) rfl
theorem w4_208 : Cond.code yX5_promoteAll prog_7_method_13_code 5 (Option.none : Option FieldType) ∈ GW := gw_in (tb4 (i := 208) rfl) rfl
theorem w4_209 : Cond.methodLink "SpillPlanner$Plan" 135 yJ7_fill_53178 ∈ GW := gw_in (tb4 (i := 209) rfl) rfl
theorem w4_210 : Cond.methodLink "SpillPlanner$Plan" 144 yX5_nextLoop ∈ GW := gw_in (tb4 (i := 210) rfl) rfl
theorem w4_212 : Cond.instanceMethod yX5_nextLoop ∈ GW := gw_in (tb4 (i := 212) rfl) rfl
theorem w4_213 : Cond.code yX5_nextLoop prog_7_method_14_code 6 (Option.some FieldType.int) ∈ GW := gw_in (tb4 (i := 213) rfl) rfl
theorem w4_214 : Cond.methodLink "SpillPlanner$Plan" 147 yX5_promoteIfGainful ∈ GW := gw_in (tb4 (i := 214) rfl) rfl
theorem w4_216 : Cond.instanceMethod yX5_promoteIfGainful ∈ GW := gw_in (tb4 (i := 216) rfl) rfl
theorem w4_217 : Cond.code yX5_promoteIfGainful prog_7_method_15_code 5 (Option.none : Option FieldType) ∈ GW := gw_in (tb4 (i := 217) rfl) rfl
theorem w4_218 : Cond.methodLink "SpillPlanner$Plan" 163 yX5_gainOf ∈ GW := gw_in (tb4 (i := 218) rfl) rfl
theorem w4_220 : Cond.instanceMethod yX5_gainOf ∈ GW := gw_in (tb4 (i := 220) rfl) rfl
theorem w4_221 : Cond.code yX5_gainOf prog_7_method_16_code 6 (Option.some FieldType.int) ∈ GW := gw_in (tb4 (i := 221) rfl) rfl
theorem w4_222 : Cond.methodLink "SpillPlanner$Plan" 176 yX5_loadsOnEdge ∈ GW := gw_in (tb4 (i := 222) rfl) rfl
theorem w4_224 : Cond.instanceMethod yX5_loadsOnEdge ∈ GW := gw_in (tb4 (i := 224) rfl) rfl
theorem w4_225 : Cond.code yX5_loadsOnEdge prog_7_method_17_code 5 (Option.some FieldType.boolean) ∈ GW := gw_in (tb4 (i := 225) rfl) rfl
theorem w4_226 : Cond.methodLink "SpillPlanner$Plan" 186 yX0_successors ∈ GW := gw_in (tb4 (i := 226) rfl) rfl
theorem w4_227 : Cond.methodLink "SpillPlanner$Plan" 180 yX1_mentionWeight ∈ GW := gw_in (tb4 (i := 227) rfl) rfl
theorem w4_228 : Cond.methodLink "SpillPlanner$Plan" 183 yX5_isLiveOutside ∈ GW := gw_in (tb4 (i := 228) rfl) rfl
theorem w4_230 : Cond.instanceMethod yX5_isLiveOutside ∈ GW := gw_in (tb4 (i := 230) rfl) rfl
theorem w4_231 : Cond.code yX5_isLiveOutside prog_7_method_18_code 6 (Option.some FieldType.boolean) ∈ GW := gw_in (tb4 (i := 231) rfl) rfl
theorem w4_232 : Cond.methodLink "SpillPlanner$Plan" 167 yX5_isPromotedAround ∈ GW := gw_in (tb4 (i := 232) rfl) rfl
theorem w4_234 : Cond.instanceMethod yX5_isPromotedAround ∈ GW := gw_in (tb4 (i := 234) rfl) rfl
theorem w4_235 : Cond.code yX5_isPromotedAround prog_7_method_19_code 4 (Option.some FieldType.boolean) ∈ GW := gw_in (tb4 (i := 235) rfl) rfl
theorem w4_236 : Cond.methodLink "SpillPlanner$Plan" 192 yX2_isWithin ∈ GW := gw_in (tb4 (i := 236) rfl) rfl
theorem w4_237 : Cond.methodLink "SpillPlanner$Plan" 170 yX5_coloursTakenIn ∈ GW := gw_in (tb4 (i := 237) rfl) rfl
theorem w4_239 : Cond.instanceMethod yX5_coloursTakenIn ∈ GW := gw_in (tb4 (i := 239) rfl) rfl
theorem w5_0 : Cond.code yX5_coloursTakenIn prog_7_method_20_code 4 (Option.some FieldType.int) ∈ GW := gw_in (tb5 (i := 0) rfl) rfl
theorem w5_1 : Cond.methodLink "SpillPlanner$Plan" 195 yX5_coloursOf ∈ GW := gw_in (tb5 (i := 1) rfl) rfl
theorem w5_3 : Cond.instanceMethod yX5_coloursOf ∈ GW := gw_in (tb5 (i := 3) rfl) rfl
theorem w5_4 : Cond.code yX5_coloursOf prog_7_method_21_code 6 (Option.some FieldType.int) ∈ GW := gw_in (tb5 (i := 4) rfl) rfl
theorem w5_5 : Cond.methodLinkNest "SpillPlanner$Plan" 173 yX9_lowestMissing "SpillPlanner" ∈ NW := List.mem_filter.mpr ⟨tb5 (i := 5) rfl, rfl⟩
theorem w5_6 : Cond.methodLink "SpillPlanner" 229 yX5_countAt ∈ GW := gw_in (tb5 (i := 6) rfl) rfl
theorem w5_7 : Cond.instanceMethod yX5_countAt ∈ GW := gw_in (tb5 (i := 7) rfl) rfl
theorem w5_8 : Cond.selects "SpillPlanner$Plan" yX5_countAt yX5_countAt ∈ GW := gw_in (tb5 (i := 8) rfl) rfl
theorem w5_9 : Cond.code yX5_countAt prog_7_method_9_code 2 (Option.some FieldType.int) ∈ GW := gw_in (tb5 (i := 9) rfl) rfl
theorem w5_10 : Cond.methodLink "SpillPlanner$Plan" 106 yJ6_bitCount_0f7a4 ∈ GW := gw_in (tb5 (i := 10) rfl) rfl
theorem w5_11 : Cond.methodLink "SpillPlannerLaw" 158 yL_home ∈ GW := gw_in (tb5 (i := 11) rfl) rfl
theorem w5_12 : Cond.static yL_home ∈ GW := gw_in (tb5 (i := 12) rfl) rfl
theorem w5_13 : Cond.codeWith yL_home method_16_code 5 (Option.some FieldType.int) [(0, 10, 13, 13), (0, 10, 17, 21)] ∈ GW := gw_in (tb5 (i := 13) rfl) rfl
theorem w5_14 : Cond.methodLink "SpillPlannerLaw" 63 yX9_home ∈ GW := gw_in (tb5 (i := 14) rfl) rfl
theorem w5_15 : Cond.instanceMethod yX9_home ∈ GW := gw_in (tb5 (i := 15) rfl) rfl
theorem w5_16 : Cond.selects "SpillPlanner" yX9_home yX9_home ∈ GW := gw_in (tb5 (i := 16) rfl) rfl
theorem w5_17 : Cond.code yX9_home prog_1_method_17_code 3 (Option.some FieldType.int) ∈ GW := gw_in (tb5 (i := 17) rfl) rfl
theorem w5_19 : Cond.methodLink "SpillPlanner" 234 yX9_requirePlan ∈ GW := gw_in (tb5 (i := 19) rfl) rfl
theorem w5_21 : Cond.instanceMethod yX9_requirePlan ∈ GW := gw_in (tb5 (i := 21) rfl) rfl
theorem w5_22 : Cond.code yX9_requirePlan prog_1_method_36_code 1 (Option.none : Option FieldType) ∈ GW := gw_in (tb5 (i := 22) rfl) rfl
theorem w5_24 : Cond.methodLink "SpillPlannerLaw" 161 yL_promoted ∈ GW := gw_in (tb5 (i := 24) rfl) rfl
theorem w5_25 : Cond.static yL_promoted ∈ GW := gw_in (tb5 (i := 25) rfl) rfl
theorem w5_26 : Cond.codeWith yL_promoted method_17_code 5 (Option.some FieldType.int) [(0, 10, 13, 13), (0, 10, 17, 19), (0, 10, 21, 21), (0, 10, 25, 26)] ∈ GW := gw_in (tb5 (i := 26) rfl) rfl
theorem w5_27 : Cond.methodLink "SpillPlannerLaw" 66 yX9_promoted ∈ GW := gw_in (tb5 (i := 27) rfl) rfl
theorem w5_28 : Cond.instanceMethod yX9_promoted ∈ GW := gw_in (tb5 (i := 28) rfl) rfl
theorem w5_29 : Cond.selects "SpillPlanner" yX9_promoted yX9_promoted ∈ GW := gw_in (tb5 (i := 29) rfl) rfl
theorem w5_30 : Cond.code yX9_promoted prog_1_method_18_code 4 (Option.some FieldType.int) ∈ GW := gw_in (tb5 (i := 30) rfl) rfl
theorem w5_32 : Cond.methodLink "SpillPlannerLaw" 164 yL_planned ∈ GW := gw_in (tb5 (i := 32) rfl) rfl
theorem w5_33 : Cond.static yL_planned ∈ GW := gw_in (tb5 (i := 33) rfl) rfl
theorem w5_34 : Cond.codeWith yL_planned method_18_code 4 (Option.some FieldType.int) [(0, 9, 12, 13), (0, 9, 15, 21)] ∈ GW := gw_in (tb5 (i := 34) rfl) rfl
theorem w5_35 : Cond.methodLink "SpillPlannerLaw" 69 yX9_planned ∈ GW := gw_in (tb5 (i := 35) rfl) rfl
theorem w5_36 : Cond.instanceMethod yX9_planned ∈ GW := gw_in (tb5 (i := 36) rfl) rfl
theorem w5_37 : Cond.selects "SpillPlanner" yX9_planned yX9_planned ∈ GW := gw_in (tb5 (i := 37) rfl) rfl
theorem w5_38 : Cond.code yX9_planned prog_1_method_19_code 2 (Option.some FieldType.int) ∈ GW := gw_in (tb5 (i := 38) rfl) rfl
theorem w5_40 : Cond.methodLink "SpillPlanner" 256 yX5_slotCount ∈ GW := gw_in (tb5 (i := 40) rfl) rfl
theorem w5_41 : Cond.instanceMethod yX5_slotCount ∈ GW := gw_in (tb5 (i := 41) rfl) rfl
theorem w5_42 : Cond.selects "SpillPlanner$Plan" yX5_slotCount yX5_slotCount ∈ GW := gw_in (tb5 (i := 42) rfl) rfl
theorem w5_43 : Cond.code yX5_slotCount prog_7_method_10_code 1 (Option.some FieldType.int) ∈ GW := gw_in (tb5 (i := 43) rfl) rfl
theorem w5_44 : Cond.methodLink "SpillPlanner" 262 yX5_totalCost ∈ GW := gw_in (tb5 (i := 44) rfl) rfl
theorem w5_45 : Cond.instanceMethod yX5_totalCost ∈ GW := gw_in (tb5 (i := 45) rfl) rfl
theorem w5_46 : Cond.selects "SpillPlanner$Plan" yX5_totalCost yX5_totalCost ∈ GW := gw_in (tb5 (i := 46) rfl) rfl
theorem w5_47 : Cond.code yX5_totalCost prog_7_method_11_code 3 (Option.some FieldType.int) ∈ GW := gw_in (tb5 (i := 47) rfl) rfl
theorem w5_48 : Cond.methodLink "SpillPlannerLaw" 171 yL_run ∈ GW := gw_in (tb5 (i := 48) rfl) rfl
theorem w5_49 : Cond.static yL_run ∈ GW := gw_in (tb5 (i := 49) rfl) rfl
theorem w5_50 : Cond.codeWith yL_run method_19_code 4 (Option.some FieldType.int) [(0, 9, 12, 13), (0, 9, 15, 75)] ∈ GW := gw_in (tb5 (i := 50) rfl) rfl
theorem w5_51 : Cond.classLink "SpillPlannerLaw" 75 "java/lang/ArithmeticException" ∈ GW := gw_in (tb5 (i := 51) rfl) rfl
theorem w5_52 : Cond.instantiable "java/lang/ArithmeticException" 6 ∈ GW := gw_in (tb5 (i := 52) rfl) rfl
theorem w5_53 : Cond.instanceMethod (⟨"java/lang/ArithmeticException", "<init>", "(Ljava/lang/String;)V"⟩ : MethodName) ∈ GW := gw_in (tb5 (i := 53) rfl) rfl
theorem w5_54 : Cond.code (⟨"java/lang/ArithmeticException", "<init>", "(Ljava/lang/String;)V"⟩ : MethodName) prog_14_method_2_code 2 (Option.none : Option FieldType) ∈ GW := gw_in (tb5 (i := 54) rfl) rfl
theorem w5_55 : Cond.methodLink "java/lang/ArithmeticException" 7 (⟨"java/lang/RuntimeException", "<init>", "(Ljava/lang/String;)V"⟩ : MethodName) ∈ GW := gw_in (tb5 (i := 55) rfl) rfl
theorem w5_56 : Cond.lays "java/lang/ArithmeticException" "java/lang/Throwable" "backtrace" "Ljava/lang/Object;" ∈ GW := gw_in (tb5 (i := 56) rfl) rfl
theorem w5_57 : Cond.lays "java/lang/ArithmeticException" "java/lang/Throwable" "detailMessage" "Ljava/lang/String;" ∈ GW := gw_in (tb5 (i := 57) rfl) rfl
theorem w5_58 : Cond.lays "java/lang/ArithmeticException" "java/lang/Throwable" "cause" "Ljava/lang/Throwable;" ∈ GW := gw_in (tb5 (i := 58) rfl) rfl
theorem w5_59 : Cond.lays "java/lang/ArithmeticException" "java/lang/Throwable" "stackTrace" "[Ljava/lang/StackTraceElement;" ∈ GW := gw_in (tb5 (i := 59) rfl) rfl
theorem w5_60 : Cond.lays "java/lang/ArithmeticException" "java/lang/Throwable" "depth" "I" ∈ GW := gw_in (tb5 (i := 60) rfl) rfl
theorem w5_61 : Cond.lays "java/lang/ArithmeticException" "java/lang/Throwable" "suppressedExceptions" "Ljava/util/List;" ∈ GW := gw_in (tb5 (i := 61) rfl) rfl
theorem w5_62 : Cond.superclass "java/lang/ArithmeticException" "java/lang/RuntimeException" ∈ GW := gw_in (tb5 (i := 62) rfl) rfl
theorem w5_63 : Cond.castable "java/lang/ArithmeticException" "java/lang/ArithmeticException" ∈ NW := List.mem_filter.mpr ⟨tb5 (i := 63) rfl, rfl⟩
theorem w5_64 : Cond.selects "java/lang/ArithmeticException" (⟨"java/lang/Throwable", "fillInStackTrace", "(I)Ljava/lang/Throwable;"⟩ : MethodName) (⟨"java/lang/Throwable", "fillInStackTrace", "(I)Ljava/lang/Throwable;"⟩ : MethodName) ∈ GW := gw_in (tb5 (i := 64) rfl) rfl
theorem w5_65 : Cond.methodLink "SpillPlannerLaw" 72 yX9_run ∈ GW := gw_in (tb5 (i := 65) rfl) rfl
theorem w5_66 : Cond.instanceMethod yX9_run ∈ GW := gw_in (tb5 (i := 66) rfl) rfl
theorem w5_67 : Cond.selects "SpillPlanner" yX9_run yX9_run ∈ GW := gw_in (tb5 (i := 67) rfl) rfl
theorem w5_68 : Cond.code yX9_run prog_1_method_21_code 2 (Option.some FieldType.int) ∈ GW := gw_in (tb5 (i := 68) rfl) rfl
theorem w5_69 : Cond.methodLink "SpillPlanner" 282 yX9_requireLimit ∈ GW := gw_in (tb5 (i := 69) rfl) rfl
theorem w5_70 : Cond.static yX9_requireLimit ∈ GW := gw_in (tb5 (i := 70) rfl) rfl
theorem w5_71 : Cond.code yX9_requireLimit prog_1_method_37_code 1 (Option.none : Option FieldType) ∈ GW := gw_in (tb5 (i := 71) rfl) rfl
theorem w5_73 : Cond.methodLink "SpillPlanner" 285 yX9_resultOf ∈ GW := gw_in (tb5 (i := 73) rfl) rfl
theorem w5_75 : Cond.instanceMethod yX9_resultOf ∈ GW := gw_in (tb5 (i := 75) rfl) rfl
theorem w5_76 : Cond.code yX9_resultOf prog_1_method_32_code 3 (Option.some FieldType.int) ∈ GW := gw_in (tb5 (i := 76) rfl) rfl
theorem w5_77 : Cond.methodLink "SpillPlanner" 329 yX3_execute ∈ GW := gw_in (tb5 (i := 77) rfl) rfl
theorem w5_78 : Cond.instanceMethod yX3_execute ∈ GW := gw_in (tb5 (i := 78) rfl) rfl
theorem w5_79 : Cond.sameMethod "SpillPlanner$Machine" "SpillPlanner$Machine" "execute" "(I)Z" ∈ GW := gw_in (tb5 (i := 79) rfl) rfl
theorem w5_80 : Cond.selects "SpillPlanner$PlainMachine" yX3_execute yX3_execute ∈ GW := gw_in (tb5 (i := 80) rfl) rfl
theorem w5_81 : Cond.selects "SpillPlanner$PlanMachine" yX3_execute yX3_execute ∈ GW := gw_in (tb5 (i := 81) rfl) rfl
theorem w5_82 : Cond.code yX3_execute prog_5_method_6_code 4 (Option.some FieldType.boolean) ∈ GW := gw_in (tb5 (i := 82) rfl) rfl
theorem w5_83 : Cond.methodLink "SpillPlanner$Machine" 19 yX3_reset ∈ GW := gw_in (tb5 (i := 83) rfl) rfl
theorem w5_85 : Cond.instanceMethod yX3_reset ∈ GW := gw_in (tb5 (i := 85) rfl) rfl
theorem w5_86 : Cond.code yX3_reset prog_5_method_7_code 1 (Option.none : Option FieldType) ∈ GW := gw_in (tb5 (i := 86) rfl) rfl
theorem w5_87 : Cond.methodLink "SpillPlanner$Machine" 74 yJ7_fill_53178 ∈ GW := gw_in (tb5 (i := 87) rfl) rfl
theorem w5_88 : Cond.methodLink "SpillPlanner$Machine" 22 (⟨"SpillPlanner$Machine", "prepare", "()V"⟩ : MethodName) ∈ GW := gw_in (tb5 (i := 88) rfl) rfl
theorem w5_89 : Cond.declares (⟨"SpillPlanner$Machine", "prepare", "()V"⟩ : MethodName) ∈ NW := List.mem_filter.mpr ⟨tb5 (i := 89) rfl, rfl⟩
theorem w5_90 : Cond.sameMethod "SpillPlanner$Machine" "SpillPlanner$Machine" "prepare" "()V" ∈ GW := gw_in (tb5 (i := 90) rfl) rfl
theorem w5_91 : Cond.selects "SpillPlanner$PlainMachine" (⟨"SpillPlanner$Machine", "prepare", "()V"⟩ : MethodName) yX4_prepare ∈ GW := gw_in (tb5 (i := 91) rfl) rfl
theorem w5_92 : Cond.instanceMethod yX4_prepare ∈ GW := gw_in (tb5 (i := 92) rfl) rfl
theorem w5_93 : Cond.code yX4_prepare prog_6_method_2_code 1 (Option.none : Option FieldType) ∈ GW := gw_in (tb5 (i := 93) rfl) rfl
theorem w5_94 : Cond.methodLink "SpillPlanner$PlainMachine" 24 (⟨"java/lang/System", "arraycopy", "(Ljava/lang/Object;ILjava/lang/Object;II)V"⟩ : MethodName) ∈ GW := gw_in (tb5 (i := 94) rfl) rfl
theorem w5_95 : Cond.selects "SpillPlanner$PlanMachine" (⟨"SpillPlanner$Machine", "prepare", "()V"⟩ : MethodName) yX6_prepare ∈ GW := gw_in (tb5 (i := 95) rfl) rfl
theorem w5_96 : Cond.instanceMethod yX6_prepare ∈ GW := gw_in (tb5 (i := 96) rfl) rfl
theorem w5_97 : Cond.code yX6_prepare prog_8_method_2_code 3 (Option.none : Option FieldType) ∈ GW := gw_in (tb5 (i := 97) rfl) rfl
theorem w5_98 : Cond.methodLink "SpillPlanner$PlanMachine" 28 yJ7_fill_53178 ∈ GW := gw_in (tb5 (i := 98) rfl) rfl
theorem w5_99 : Cond.methodLink "SpillPlanner$PlanMachine" 40 yX1_liveAtBeginning ∈ GW := gw_in (tb5 (i := 99) rfl) rfl
theorem w5_100 : Cond.methodLinkNest "SpillPlanner$PlanMachine" 46 yX9_has "SpillPlanner" ∈ NW := List.mem_filter.mpr ⟨tb5 (i := 100) rfl, rfl⟩
theorem w5_101 : Cond.methodLink "SpillPlanner$PlanMachine" 50 yX6_placeInitial ∈ GW := gw_in (tb5 (i := 101) rfl) rfl
theorem w5_103 : Cond.instanceMethod yX6_placeInitial ∈ GW := gw_in (tb5 (i := 103) rfl) rfl
theorem w5_104 : Cond.code yX6_placeInitial prog_8_method_3_code 2 (Option.none : Option FieldType) ∈ GW := gw_in (tb5 (i := 104) rfl) rfl
theorem w5_105 : Cond.methodLink "SpillPlanner$Machine" 25 yX3_moveTo ∈ GW := gw_in (tb5 (i := 105) rfl) rfl
theorem w5_107 : Cond.instanceMethod yX3_moveTo ∈ GW := gw_in (tb5 (i := 107) rfl) rfl
theorem w5_108 : Cond.code yX3_moveTo prog_5_method_8_code 3 (Option.none : Option FieldType) ∈ GW := gw_in (tb5 (i := 108) rfl) rfl
theorem w5_109 : Cond.methodLink "SpillPlanner$Machine" 89 (⟨"SpillPlanner$Machine", "enter", "(II)V"⟩ : MethodName) ∈ GW := gw_in (tb5 (i := 109) rfl) rfl
theorem w5_110 : Cond.declares (⟨"SpillPlanner$Machine", "enter", "(II)V"⟩ : MethodName) ∈ NW := List.mem_filter.mpr ⟨tb5 (i := 110) rfl, rfl⟩
theorem w5_111 : Cond.sameMethod "SpillPlanner$Machine" "SpillPlanner$Machine" "enter" "(II)V" ∈ GW := gw_in (tb5 (i := 111) rfl) rfl
theorem w5_112 : Cond.selects "SpillPlanner$PlainMachine" (⟨"SpillPlanner$Machine", "enter", "(II)V"⟩ : MethodName) yX4_enter ∈ GW := gw_in (tb5 (i := 112) rfl) rfl
theorem w5_113 : Cond.instanceMethod yX4_enter ∈ GW := gw_in (tb5 (i := 113) rfl) rfl
theorem w5_114 : Cond.code yX4_enter prog_6_method_3_code 3 (Option.none : Option FieldType) ∈ GW := gw_in (tb5 (i := 114) rfl) rfl
theorem w5_115 : Cond.selects "SpillPlanner$PlanMachine" (⟨"SpillPlanner$Machine", "enter", "(II)V"⟩ : MethodName) yX6_enter ∈ GW := gw_in (tb5 (i := 115) rfl) rfl
theorem w5_116 : Cond.instanceMethod yX6_enter ∈ GW := gw_in (tb5 (i := 116) rfl) rfl
theorem w5_117 : Cond.code yX6_enter prog_8_method_4_code 4 (Option.none : Option FieldType) ∈ GW := gw_in (tb5 (i := 117) rfl) rfl
theorem w5_118 : Cond.methodLink "SpillPlanner$PlanMachine" 82 yX2_contains ∈ GW := gw_in (tb5 (i := 118) rfl) rfl
theorem w5_119 : Cond.methodLink "SpillPlanner$PlanMachine" 85 yX6_storePromoted ∈ GW := gw_in (tb5 (i := 119) rfl) rfl
theorem w5_121 : Cond.instanceMethod yX6_storePromoted ∈ GW := gw_in (tb5 (i := 121) rfl) rfl
theorem w5_122 : Cond.code yX6_storePromoted prog_8_method_5_code 6 (Option.none : Option FieldType) ∈ GW := gw_in (tb5 (i := 122) rfl) rfl
theorem w5_123 : Cond.methodLink "SpillPlanner$PlanMachine" 92 yX6_loadPromoted ∈ GW := gw_in (tb5 (i := 123) rfl) rfl
theorem w5_125 : Cond.instanceMethod yX6_loadPromoted ∈ GW := gw_in (tb5 (i := 125) rfl) rfl
theorem w5_126 : Cond.code yX6_loadPromoted prog_8_method_6_code 6 (Option.none : Option FieldType) ∈ GW := gw_in (tb5 (i := 126) rfl) rfl
theorem w5_127 : Cond.methodLink "SpillPlanner$Machine" 50 yX3_valueOf ∈ GW := gw_in (tb5 (i := 127) rfl) rfl
theorem w5_129 : Cond.instanceMethod yX3_valueOf ∈ GW := gw_in (tb5 (i := 129) rfl) rfl
theorem w5_130 : Cond.code yX3_valueOf prog_5_method_10_code 5 (Option.some FieldType.int) ∈ GW := gw_in (tb5 (i := 130) rfl) rfl
theorem w5_131 : Cond.methodLink "SpillPlanner$Machine" 63 (⟨"SpillPlanner$Machine", "fetch", "(I)I"⟩ : MethodName) ∈ GW := gw_in (tb5 (i := 131) rfl) rfl
theorem w5_132 : Cond.declares (⟨"SpillPlanner$Machine", "fetch", "(I)I"⟩ : MethodName) ∈ NW := List.mem_filter.mpr ⟨tb5 (i := 132) rfl, rfl⟩
theorem w5_133 : Cond.sameMethod "SpillPlanner$Machine" "SpillPlanner$Machine" "fetch" "(I)I" ∈ GW := gw_in (tb5 (i := 133) rfl) rfl
theorem w5_134 : Cond.selects "SpillPlanner$PlainMachine" (⟨"SpillPlanner$Machine", "fetch", "(I)I"⟩ : MethodName) yX4_fetch ∈ GW := gw_in (tb5 (i := 134) rfl) rfl
theorem w5_135 : Cond.instanceMethod yX4_fetch ∈ GW := gw_in (tb5 (i := 135) rfl) rfl
theorem w5_136 : Cond.code yX4_fetch prog_6_method_4_code 2 (Option.some FieldType.int) ∈ GW := gw_in (tb5 (i := 136) rfl) rfl
theorem w5_137 : Cond.selects "SpillPlanner$PlanMachine" (⟨"SpillPlanner$Machine", "fetch", "(I)I"⟩ : MethodName) yX6_fetch ∈ GW := gw_in (tb5 (i := 137) rfl) rfl
theorem w5_138 : Cond.instanceMethod yX6_fetch ∈ GW := gw_in (tb5 (i := 138) rfl) rfl
theorem w5_139 : Cond.code yX6_fetch prog_8_method_7_code 3 (Option.some FieldType.int) ∈ GW := gw_in (tb5 (i := 139) rfl) rfl
theorem w5_140 : Cond.methodLink "SpillPlanner$PlanMachine" 119 yX5_registerIn ∈ GW := gw_in (tb5 (i := 140) rfl) rfl
theorem w5_141 : Cond.instanceMethod yX5_registerIn ∈ GW := gw_in (tb5 (i := 141) rfl) rfl
theorem w5_142 : Cond.selects "SpillPlanner$Plan" yX5_registerIn yX5_registerIn ∈ GW := gw_in (tb5 (i := 142) rfl) rfl
theorem w5_143 : Cond.code yX5_registerIn prog_7_method_22_code 6 (Option.some FieldType.int) ∈ GW := gw_in (tb5 (i := 143) rfl) rfl
theorem w5_144 : Cond.methodLink "SpillPlanner$PlanMachine" 123 yX6_fetchFromMemory ∈ GW := gw_in (tb5 (i := 144) rfl) rfl
theorem w5_146 : Cond.instanceMethod yX6_fetchFromMemory ∈ GW := gw_in (tb5 (i := 146) rfl) rfl
theorem w5_147 : Cond.code yX6_fetchFromMemory prog_8_method_8_code 3 (Option.some FieldType.int) ∈ GW := gw_in (tb5 (i := 147) rfl) rfl
theorem w5_148 : Cond.methodLink "SpillPlanner$PlanMachine" 126 yX6_scratchFor ∈ GW := gw_in (tb5 (i := 148) rfl) rfl
theorem w5_150 : Cond.instanceMethod yX6_scratchFor ∈ GW := gw_in (tb5 (i := 150) rfl) rfl
theorem w5_151 : Cond.code yX6_scratchFor prog_8_method_11_code 2 (Option.some FieldType.int) ∈ GW := gw_in (tb5 (i := 151) rfl) rfl
theorem w5_152 : Cond.methodLink "SpillPlanner$Machine" 54 (⟨"SpillPlanner$Machine", "put", "(II)V"⟩ : MethodName) ∈ GW := gw_in (tb5 (i := 152) rfl) rfl
theorem w5_153 : Cond.declares (⟨"SpillPlanner$Machine", "put", "(II)V"⟩ : MethodName) ∈ NW := List.mem_filter.mpr ⟨tb5 (i := 153) rfl, rfl⟩
theorem w5_154 : Cond.sameMethod "SpillPlanner$Machine" "SpillPlanner$Machine" "put" "(II)V" ∈ GW := gw_in (tb5 (i := 154) rfl) rfl
theorem w5_155 : Cond.selects "SpillPlanner$PlainMachine" (⟨"SpillPlanner$Machine", "put", "(II)V"⟩ : MethodName) yX4_put ∈ GW := gw_in (tb5 (i := 155) rfl) rfl
theorem w5_156 : Cond.instanceMethod yX4_put ∈ GW := gw_in (tb5 (i := 156) rfl) rfl
theorem w5_157 : Cond.code yX4_put prog_6_method_5_code 3 (Option.none : Option FieldType) ∈ GW := gw_in (tb5 (i := 157) rfl) rfl
theorem w5_158 : Cond.selects "SpillPlanner$PlanMachine" (⟨"SpillPlanner$Machine", "put", "(II)V"⟩ : MethodName) yX6_put ∈ GW := gw_in (tb5 (i := 158) rfl) rfl
theorem w5_159 : Cond.instanceMethod yX6_put ∈ GW := gw_in (tb5 (i := 159) rfl) rfl
theorem w5_160 : Cond.code yX6_put prog_8_method_9_code 4 (Option.none : Option FieldType) ∈ GW := gw_in (tb5 (i := 160) rfl) rfl
theorem w5_161 : Cond.methodLink "SpillPlanner$PlanMachine" 129 yX6_putInMemory ∈ GW := gw_in (tb5 (i := 161) rfl) rfl
theorem w5_163 : Cond.instanceMethod yX6_putInMemory ∈ GW := gw_in (tb5 (i := 163) rfl) rfl
theorem w5_164 : Cond.code yX6_putInMemory prog_8_method_10_code 4 (Option.none : Option FieldType) ∈ GW := gw_in (tb5 (i := 164) rfl) rfl
theorem w5_165 : Cond.methodLink "SpillPlanner$Machine" 70 yX3_nextBlock ∈ GW := gw_in (tb5 (i := 165) rfl) rfl
theorem w5_167 : Cond.instanceMethod yX3_nextBlock ∈ GW := gw_in (tb5 (i := 167) rfl) rfl
theorem w5_168 : Cond.code yX3_nextBlock prog_5_method_9_code 2 (Option.some FieldType.int) ∈ GW := gw_in (tb5 (i := 168) rfl) rfl
theorem w5_169 : Cond.classLink "SpillPlanner" 334 "java/lang/ArithmeticException" ∈ GW := gw_in (tb5 (i := 169) rfl) rfl
theorem w5_171 : Cond.methodLink "SpillPlanner" 338 (⟨"java/lang/ArithmeticException", "<init>", "(Ljava/lang/String;)V"⟩ : MethodName) ∈ GW := gw_in (tb5 (i := 171) rfl) rfl
theorem w5_172 : Cond.methodLink "SpillPlanner" 354 (⟨"java/lang/System", "arraycopy", "(Ljava/lang/Object;ILjava/lang/Object;II)V"⟩ : MethodName) ∈ GW := gw_in (tb5 (i := 172) rfl) rfl
theorem w5_173 : Cond.methodLink "SpillPlannerLaw" 174 yL_runPlanned ∈ GW := gw_in (tb5 (i := 173) rfl) rfl
theorem w5_174 : Cond.static yL_runPlanned ∈ GW := gw_in (tb5 (i := 174) rfl) rfl
theorem w5_175 : Cond.codeWith yL_runPlanned method_20_code 4 (Option.some FieldType.int) [(0, 9, 12, 13), (0, 9, 15, 21), (0, 9, 18, 75)] ∈ GW := gw_in (tb5 (i := 175) rfl) rfl
theorem w5_176 : Cond.methodLink "SpillPlannerLaw" 77 yX9_runPlanned ∈ GW := gw_in (tb5 (i := 176) rfl) rfl
theorem w5_177 : Cond.instanceMethod yX9_runPlanned ∈ GW := gw_in (tb5 (i := 177) rfl) rfl
theorem w5_178 : Cond.selects "SpillPlanner" yX9_runPlanned yX9_runPlanned ∈ GW := gw_in (tb5 (i := 178) rfl) rfl
theorem w5_179 : Cond.code yX9_runPlanned prog_1_method_22_code 2 (Option.some FieldType.int) ∈ GW := gw_in (tb5 (i := 179) rfl) rfl
theorem w5_180 : Cond.methodLink "SpillPlannerLaw" 177 yL_executed ∈ GW := gw_in (tb5 (i := 180) rfl) rfl
theorem w5_181 : Cond.static yL_executed ∈ GW := gw_in (tb5 (i := 181) rfl) rfl
theorem w5_182 : Cond.codeWith yL_executed method_21_code 4 (Option.some FieldType.int) [(0, 9, 12, 13)] ∈ GW := gw_in (tb5 (i := 182) rfl) rfl
theorem w5_183 : Cond.methodLink "SpillPlannerLaw" 80 yX9_executed ∈ GW := gw_in (tb5 (i := 183) rfl) rfl
theorem w5_184 : Cond.instanceMethod yX9_executed ∈ GW := gw_in (tb5 (i := 184) rfl) rfl
theorem w5_185 : Cond.selects "SpillPlanner" yX9_executed yX9_executed ∈ GW := gw_in (tb5 (i := 185) rfl) rfl
theorem w5_186 : Cond.code yX9_executed prog_1_method_23_code 2 (Option.some FieldType.int) ∈ GW := gw_in (tb5 (i := 186) rfl) rfl
theorem w5_188 : Cond.methodLink "SpillPlannerLaw" 180 yL_visits ∈ GW := gw_in (tb5 (i := 188) rfl) rfl
theorem w5_189 : Cond.static yL_visits ∈ GW := gw_in (tb5 (i := 189) rfl) rfl
theorem w5_190 : Cond.codeWith yL_visits method_22_code 4 (Option.some FieldType.int) [(0, 9, 12, 19)] ∈ GW := gw_in (tb5 (i := 190) rfl) rfl
theorem w5_191 : Cond.methodLink "SpillPlannerLaw" 83 yX9_visits ∈ GW := gw_in (tb5 (i := 191) rfl) rfl
theorem w5_192 : Cond.instanceMethod yX9_visits ∈ GW := gw_in (tb5 (i := 192) rfl) rfl
theorem w5_193 : Cond.selects "SpillPlanner" yX9_visits yX9_visits ∈ GW := gw_in (tb5 (i := 193) rfl) rfl
theorem w5_194 : Cond.code yX9_visits prog_1_method_24_code 2 (Option.some FieldType.int) ∈ GW := gw_in (tb5 (i := 194) rfl) rfl
theorem w5_195 : Cond.methodLink "SpillPlannerLaw" 187 yL_feed ∈ GW := gw_in (tb5 (i := 195) rfl) rfl
theorem w5_196 : Cond.static yL_feed ∈ GW := gw_in (tb5 (i := 196) rfl) rfl
theorem w5_197 : Cond.codeWith yL_feed method_23_code 4 (Option.some FieldType.int) [(0, 9, 12, 21)] ∈ GW := gw_in (tb5 (i := 197) rfl) rfl
theorem w5_198 : Cond.methodLink "SpillPlannerLaw" 86 yX9_feed ∈ GW := gw_in (tb5 (i := 198) rfl) rfl
theorem w5_199 : Cond.instanceMethod yX9_feed ∈ GW := gw_in (tb5 (i := 199) rfl) rfl
theorem w5_200 : Cond.selects "SpillPlanner" yX9_feed yX9_feed ∈ GW := gw_in (tb5 (i := 200) rfl) rfl
theorem w5_201 : Cond.code yX9_feed prog_1_method_26_code 2 (Option.some FieldType.int) ∈ GW := gw_in (tb5 (i := 201) rfl) rfl
theorem w5_203 : Cond.methodLink "SpillPlannerLaw" 191 yL_read ∈ GW := gw_in (tb5 (i := 203) rfl) rfl
theorem w5_204 : Cond.static yL_read ∈ GW := gw_in (tb5 (i := 204) rfl) rfl
theorem w5_205 : Cond.codeWith yL_read method_24_code 4 (Option.some FieldType.int) [(0, 9, 12, 19)] ∈ GW := gw_in (tb5 (i := 205) rfl) rfl
theorem w5_206 : Cond.methodLink "SpillPlannerLaw" 90 yX9_read ∈ GW := gw_in (tb5 (i := 206) rfl) rfl
theorem w5_207 : Cond.instanceMethod yX9_read ∈ GW := gw_in (tb5 (i := 207) rfl) rfl
theorem w5_208 : Cond.selects "SpillPlanner" yX9_read yX9_read ∈ GW := gw_in (tb5 (i := 208) rfl) rfl
theorem w5_209 : Cond.code yX9_read prog_1_method_27_code 3 (Option.some FieldType.int) ∈ GW := gw_in (tb5 (i := 209) rfl) rfl
theorem w5_210 : Cond.methodLink "SpillPlanner" 300 yX8_parse ∈ GW := gw_in (tb5 (i := 210) rfl) rfl
theorem w5_211 : Cond.instanceMethod yX8_parse ∈ GW := gw_in (tb5 (i := 211) rfl) rfl
theorem w5_212 : Cond.selects "SpillPlanner$Reader" yX8_parse yX8_parse ∈ GW := gw_in (tb5 (i := 212) rfl) rfl
theorem w5_213 : Cond.code yX8_parse prog_10_method_2_code 3 (Option.some FieldType.boolean) ∈ GW := gw_in (tb5 (i := 213) rfl) rfl
theorem w5_214 : Cond.methodLink "SpillPlanner$Reader" 29 yX0_begin ∈ GW := gw_in (tb5 (i := 214) rfl) rfl
theorem w5_215 : Cond.methodLink "SpillPlanner$Reader" 32 yX8_startsInstruction ∈ GW := gw_in (tb5 (i := 215) rfl) rfl
theorem w5_217 : Cond.instanceMethod yX8_startsInstruction ∈ GW := gw_in (tb5 (i := 217) rfl) rfl
theorem w5_218 : Cond.code yX8_startsInstruction prog_10_method_3_code 4 (Option.some FieldType.boolean) ∈ GW := gw_in (tb5 (i := 218) rfl) rfl
theorem w5_219 : Cond.methodLink "SpillPlanner$Reader" 45 yX8_signAt ∈ GW := gw_in (tb5 (i := 219) rfl) rfl
theorem w5_221 : Cond.instanceMethod yX8_signAt ∈ GW := gw_in (tb5 (i := 221) rfl) rfl
theorem w5_222 : Cond.code yX8_signAt prog_10_method_15_code 2 (Option.some FieldType.char) ∈ GW := gw_in (tb5 (i := 222) rfl) rfl
theorem w5_223 : Cond.methodLink "SpillPlanner$Reader" 36 yX8_parseInstruction ∈ GW := gw_in (tb5 (i := 223) rfl) rfl
theorem w5_225 : Cond.instanceMethod yX8_parseInstruction ∈ GW := gw_in (tb5 (i := 225) rfl) rfl
theorem w5_226 : Cond.code yX8_parseInstruction prog_10_method_4_code 3 (Option.some FieldType.boolean) ∈ GW := gw_in (tb5 (i := 226) rfl) rfl
theorem w5_227 : Cond.methodLink "SpillPlanner$Reader" 49 yX8_takeVariable ∈ GW := gw_in (tb5 (i := 227) rfl) rfl
theorem w5_229 : Cond.instanceMethod yX8_takeVariable ∈ GW := gw_in (tb5 (i := 229) rfl) rfl
theorem w5_230 : Cond.code yX8_takeVariable prog_10_method_13_code 2 (Option.some FieldType.int) ∈ GW := gw_in (tb5 (i := 230) rfl) rfl
theorem w5_231 : Cond.methodLink "SpillPlanner$Reader" 53 yX8_take ∈ GW := gw_in (tb5 (i := 231) rfl) rfl
theorem w5_233 : Cond.instanceMethod yX8_take ∈ GW := gw_in (tb5 (i := 233) rfl) rfl
theorem w5_234 : Cond.code yX8_take prog_10_method_12_code 2 (Option.some FieldType.boolean) ∈ GW := gw_in (tb5 (i := 234) rfl) rfl
theorem w5_235 : Cond.methodLink "SpillPlanner$Reader" 57 yX8_isDigit ∈ GW := gw_in (tb5 (i := 235) rfl) rfl
theorem w5_236 : Cond.static yX8_isDigit ∈ GW := gw_in (tb5 (i := 236) rfl) rfl
theorem w5_237 : Cond.code yX8_isDigit prog_10_method_16_code 1 (Option.some FieldType.boolean) ∈ GW := gw_in (tb5 (i := 237) rfl) rfl
theorem w5_238 : Cond.methodLink "SpillPlanner$Reader" 60 yX8_parseConstant ∈ GW := gw_in (tb5 (i := 238) rfl) rfl
theorem w6_0 : Cond.instanceMethod yX8_parseConstant ∈ GW := gw_in (tb6 (i := 0) rfl) rfl
theorem w6_1 : Cond.code yX8_parseConstant prog_10_method_5_code 5 (Option.some FieldType.boolean) ∈ GW := gw_in (tb6 (i := 1) rfl) rfl
theorem w6_2 : Cond.methodLink "SpillPlanner$Reader" 67 yX0_add ∈ GW := gw_in (tb6 (i := 2) rfl) rfl
theorem w6_3 : Cond.methodLink "SpillPlanner$Reader" 64 yX8_parseVariables ∈ GW := gw_in (tb6 (i := 3) rfl) rfl
theorem w6_5 : Cond.instanceMethod yX8_parseVariables ∈ GW := gw_in (tb6 (i := 5) rfl) rfl
theorem w6_6 : Cond.code yX8_parseVariables prog_10_method_6_code 5 (Option.some FieldType.boolean) ∈ GW := gw_in (tb6 (i := 6) rfl) rfl
theorem w6_7 : Cond.methodLink "SpillPlanner$Reader" 71 yX8_takeOperator ∈ GW := gw_in (tb6 (i := 7) rfl) rfl
theorem w6_9 : Cond.instanceMethod yX8_takeOperator ∈ GW := gw_in (tb6 (i := 9) rfl) rfl
theorem w6_10 : Cond.code yX8_takeOperator prog_10_method_7_code 1 (Option.some FieldType.int) ∈ GW := gw_in (tb6 (i := 10) rfl) rfl
theorem w6_11 : Cond.methodLink "SpillPlanner$Reader" 39 yX8_parseEnding ∈ GW := gw_in (tb6 (i := 11) rfl) rfl
theorem w6_13 : Cond.instanceMethod yX8_parseEnding ∈ GW := gw_in (tb6 (i := 13) rfl) rfl
theorem w6_14 : Cond.code yX8_parseEnding prog_10_method_8_code 1 (Option.some FieldType.boolean) ∈ GW := gw_in (tb6 (i := 14) rfl) rfl
theorem w6_16 : Cond.methodLink "SpillPlanner$Reader" 76 yX8_takeWord ∈ GW := gw_in (tb6 (i := 16) rfl) rfl
theorem w6_18 : Cond.instanceMethod yX8_takeWord ∈ GW := gw_in (tb6 (i := 18) rfl) rfl
theorem w6_19 : Cond.code yX8_takeWord prog_10_method_11_code 3 (Option.some FieldType.boolean) ∈ GW := gw_in (tb6 (i := 19) rfl) rfl
theorem w6_20 : Cond.methodLink "SpillPlanner$Reader" 97 yJ0_length_8abf5 ∈ GW := gw_in (tb6 (i := 20) rfl) rfl
theorem w6_21 : Cond.instanceMethod yJ0_length_8abf5 ∈ GW := gw_in (tb6 (i := 21) rfl) rfl
theorem w6_22 : Cond.selects "java/lang/String" yJ0_length_8abf5 yJ0_length_8abf5 ∈ GW := gw_in (tb6 (i := 22) rfl) rfl
theorem w6_23 : Cond.code yJ0_length_8abf5 prog_25_method_54_code 1 (Option.some FieldType.int) ∈ GW := gw_in (tb6 (i := 23) rfl) rfl
theorem w6_24 : Cond.methodLink "java/lang/String" 335 yJ0_coder_7d493 ∈ GW := gw_in (tb6 (i := 24) rfl) rfl
theorem w6_25 : Cond.instanceMethod yJ0_coder_7d493 ∈ GW := gw_in (tb6 (i := 25) rfl) rfl
theorem w6_26 : Cond.selects "java/lang/String" yJ0_coder_7d493 yJ0_coder_7d493 ∈ GW := gw_in (tb6 (i := 26) rfl) rfl
theorem w6_27 : Cond.code yJ0_coder_7d493 prog_25_method_152_code 1 (Option.some FieldType.byte) ∈ GW := gw_in (tb6 (i := 27) rfl) rfl
theorem w6_28 : Cond.fieldLink "java/lang/String" 38 "java/lang/String" "COMPACT_STRINGS" "Z" ∈ GW := gw_in (tb6 (i := 28) rfl) rfl
theorem w6_30 : Cond.methodLink "SpillPlanner$Reader" 101 yJ0_charAt_5068e ∈ GW := gw_in (tb6 (i := 30) rfl) rfl
theorem w6_31 : Cond.instanceMethod yJ0_charAt_5068e ∈ GW := gw_in (tb6 (i := 31) rfl) rfl
theorem w6_32 : Cond.selects "java/lang/String" yJ0_charAt_5068e yJ0_charAt_5068e ∈ GW := gw_in (tb6 (i := 32) rfl) rfl
theorem w6_33 : Cond.code yJ0_charAt_5068e prog_25_method_56_code 2 (Option.some FieldType.char) ∈ GW := gw_in (tb6 (i := 33) rfl) rfl
theorem w6_34 : Cond.methodLink "java/lang/String" 492 yJ0_isLatin1_aae02 ∈ GW := gw_in (tb6 (i := 34) rfl) rfl
theorem w6_35 : Cond.instanceMethod yJ0_isLatin1_aae02 ∈ GW := gw_in (tb6 (i := 35) rfl) rfl
theorem w6_36 : Cond.selects "java/lang/String" yJ0_isLatin1_aae02 yJ0_isLatin1_aae02 ∈ GW := gw_in (tb6 (i := 36) rfl) rfl
theorem w6_37 : Cond.code yJ0_isLatin1_aae02 prog_25_method_154_code 1 (Option.some FieldType.boolean) ∈ GW := gw_in (tb6 (i := 37) rfl) rfl
theorem w6_38 : Cond.methodLink "java/lang/String" 495 yJ1_charAt_3b067 ∈ GW := gw_in (tb6 (i := 38) rfl) rfl
theorem w6_39 : Cond.static yJ1_charAt_3b067 ∈ GW := gw_in (tb6 (i := 39) rfl) rfl
theorem w6_40 : Cond.code yJ1_charAt_3b067 prog_26_method_2_code 2 (Option.some FieldType.char) ∈ GW := gw_in (tb6 (i := 40) rfl) rfl
theorem w6_41 : Cond.methodLink "java/lang/StringLatin1" 9 yJ0_checkIndex_df160 ∈ GW := gw_in (tb6 (i := 41) rfl) rfl
theorem w6_42 : Cond.static yJ0_checkIndex_df160 ∈ GW := gw_in (tb6 (i := 42) rfl) rfl
theorem w6_43 : Cond.code yJ0_checkIndex_df160 prog_25_method_155_code 2 (Option.none : Option FieldType) ∈ GW := gw_in (tb6 (i := 43) rfl) rfl
theorem w6_44 : Cond.fieldLink "java/lang/String" 1053 "jdk/internal/util/Preconditions" "SIOOBE_FORMATTER" "Ljava/util/function/BiFunction;" ∈ GW := gw_in (tb6 (i := 44) rfl) rfl
theorem w6_46 : Cond.methodLink "java/lang/String" 1059 yJ3_checkIndex_8e157 ∈ GW := gw_in (tb6 (i := 46) rfl) rfl
theorem w6_47 : Cond.static yJ3_checkIndex_8e157 ∈ GW := gw_in (tb6 (i := 47) rfl) rfl
theorem w6_48 : Cond.code yJ3_checkIndex_8e157 prog_35_method_11_code 3 (Option.some FieldType.int) ∈ GW := gw_in (tb6 (i := 48) rfl) rfl
theorem w6_49 : Cond.methodLink "java/lang/String" 498 yJ2_charAt_3b067 ∈ GW := gw_in (tb6 (i := 49) rfl) rfl
theorem w6_50 : Cond.static yJ2_charAt_3b067 ∈ GW := gw_in (tb6 (i := 50) rfl) rfl
theorem w6_51 : Cond.code yJ2_charAt_3b067 prog_27_method_83_code 2 (Option.some FieldType.char) ∈ GW := gw_in (tb6 (i := 51) rfl) rfl
theorem w6_52 : Cond.methodLink "java/lang/StringUTF16" 67 yJ2_checkIndex_2214a ∈ GW := gw_in (tb6 (i := 52) rfl) rfl
theorem w6_53 : Cond.static yJ2_checkIndex_2214a ∈ GW := gw_in (tb6 (i := 53) rfl) rfl
theorem w6_54 : Cond.code yJ2_checkIndex_2214a prog_27_method_91_code 2 (Option.none : Option FieldType) ∈ GW := gw_in (tb6 (i := 54) rfl) rfl
theorem w6_55 : Cond.methodLink "java/lang/StringUTF16" 48 yJ2_length_9d52b ∈ GW := gw_in (tb6 (i := 55) rfl) rfl
theorem w6_56 : Cond.static yJ2_length_9d52b ∈ GW := gw_in (tb6 (i := 56) rfl) rfl
theorem w6_57 : Cond.code yJ2_length_9d52b prog_27_method_6_code 1 (Option.some FieldType.int) ∈ GW := gw_in (tb6 (i := 57) rfl) rfl
theorem w6_58 : Cond.methodLink "java/lang/StringUTF16" 414 yJ0_checkIndex_df160 ∈ GW := gw_in (tb6 (i := 58) rfl) rfl
theorem w6_59 : Cond.methodLink "java/lang/StringUTF16" 71 yJ2_getChar_3b067 ∈ GW := gw_in (tb6 (i := 59) rfl) rfl
theorem w6_60 : Cond.static yJ2_getChar_3b067 ∈ GW := gw_in (tb6 (i := 60) rfl) rfl
theorem w6_61 : Cond.code yJ2_getChar_3b067 prog_27_method_5_code 2 (Option.some FieldType.char) ∈ GW := gw_in (tb6 (i := 61) rfl) rfl
theorem w6_62 : Cond.fieldLink "java/lang/StringUTF16" 44 "java/lang/StringUTF16" "$assertionsDisabled" "Z" ∈ GW := gw_in (tb6 (i := 62) rfl) rfl
theorem w6_64 : Cond.fieldLink "java/lang/StringUTF16" 59 "java/lang/StringUTF16" "HI_BYTE_SHIFT" "I" ∈ GW := gw_in (tb6 (i := 64) rfl) rfl
theorem w6_66 : Cond.fieldLink "java/lang/StringUTF16" 63 "java/lang/StringUTF16" "LO_BYTE_SHIFT" "I" ∈ GW := gw_in (tb6 (i := 66) rfl) rfl
theorem w6_68 : Cond.methodLink "SpillPlanner$Reader" 80 yX8_takeBlock ∈ GW := gw_in (tb6 (i := 68) rfl) rfl
theorem w6_70 : Cond.instanceMethod yX8_takeBlock ∈ GW := gw_in (tb6 (i := 70) rfl) rfl
theorem w6_71 : Cond.code yX8_takeBlock prog_10_method_14_code 2 (Option.some FieldType.int) ∈ GW := gw_in (tb6 (i := 71) rfl) rfl
theorem w6_72 : Cond.methodLink "SpillPlanner$Reader" 83 yX8_finishDraft ∈ GW := gw_in (tb6 (i := 72) rfl) rfl
theorem w6_74 : Cond.instanceMethod yX8_finishDraft ∈ GW := gw_in (tb6 (i := 74) rfl) rfl
theorem w6_75 : Cond.code yX8_finishDraft prog_10_method_10_code 8 (Option.some FieldType.boolean) ∈ GW := gw_in (tb6 (i := 75) rfl) rfl
theorem w6_76 : Cond.methodLink "SpillPlanner$Reader" 94 yX0_finish ∈ GW := gw_in (tb6 (i := 76) rfl) rfl
theorem w6_78 : Cond.methodLink "SpillPlanner$Reader" 89 yX8_parseBranch ∈ GW := gw_in (tb6 (i := 78) rfl) rfl
theorem w6_80 : Cond.instanceMethod yX8_parseBranch ∈ GW := gw_in (tb6 (i := 80) rfl) rfl
theorem w6_81 : Cond.code yX8_parseBranch prog_10_method_9_code 3 (Option.some FieldType.boolean) ∈ GW := gw_in (tb6 (i := 81) rfl) rfl
theorem w6_83 : Cond.methodLink "SpillPlanner" 310 yX0_copyCode ∈ GW := gw_in (tb6 (i := 83) rfl) rfl
theorem w6_84 : Cond.methodLink "SpillPlannerLaw" 198 yL_restoreSnapshot ∈ GW := gw_in (tb6 (i := 84) rfl) rfl
theorem w6_85 : Cond.static yL_restoreSnapshot ∈ GW := gw_in (tb6 (i := 85) rfl) rfl
theorem w6_86 : Cond.codeWith yL_restoreSnapshot method_25_code 3 (Option.some FieldType.int) [(0, 8, 11, 21)] ∈ GW := gw_in (tb6 (i := 86) rfl) rfl
theorem w6_87 : Cond.methodLink "SpillPlannerLaw" 93 yX9_restoreSnapshot ∈ GW := gw_in (tb6 (i := 87) rfl) rfl
theorem w6_88 : Cond.instanceMethod yX9_restoreSnapshot ∈ GW := gw_in (tb6 (i := 88) rfl) rfl
theorem w6_89 : Cond.selects "SpillPlanner" yX9_restoreSnapshot yX9_restoreSnapshot ∈ GW := gw_in (tb6 (i := 89) rfl) rfl
theorem w6_90 : Cond.code yX9_restoreSnapshot prog_1_method_29_code 1 (Option.some FieldType.int) ∈ GW := gw_in (tb6 (i := 90) rfl) rfl
theorem w6_92 : Cond.methodLink "SpillPlannerLaw" 107 yX10_thrown ∈ GW := gw_in (tb6 (i := 92) rfl) rfl
theorem w6_93 : Cond.instanceMethod yX10_thrown ∈ GW := gw_in (tb6 (i := 93) rfl) rfl
theorem w6_94 : Cond.selects "SpillPlannerModel" yX10_thrown yX10_thrown ∈ GW := gw_in (tb6 (i := 94) rfl) rfl
theorem w6_95 : Cond.code yX10_thrown prog_12_method_1_code 1 (Option.some FieldType.int) ∈ GW := gw_in (tb6 (i := 95) rfl) rfl
theorem w6_96 : Cond.classLink "SpillPlannerLaw" 98 "SpillPlannerModel" ∈ GW := gw_in (tb6 (i := 96) rfl) rfl
theorem w6_97 : Cond.instantiable "SpillPlannerModel" 66 ∈ GW := gw_in (tb6 (i := 97) rfl) rfl
theorem w6_98 : Cond.methodLink "SpillPlannerLaw" 100 yX10_init ∈ GW := gw_in (tb6 (i := 98) rfl) rfl
theorem w6_99 : Cond.instanceMethod yX10_init ∈ GW := gw_in (tb6 (i := 99) rfl) rfl
theorem w6_100 : Cond.code yX10_init prog_12_method_7_code 1 (Option.none : Option FieldType) ∈ GW := gw_in (tb6 (i := 100) rfl) rfl
theorem w6_101 : Cond.methodLink "SpillPlannerModel" 11 (⟨"java/lang/Object", "<init>", "()V"⟩ : MethodName) ∈ GW := gw_in (tb6 (i := 101) rfl) rfl
theorem w6_102 : Cond.methodLink "SpillPlannerModel" 214 yX10_empties ∈ GW := gw_in (tb6 (i := 102) rfl) rfl
theorem w6_104 : Cond.instanceMethod yX10_empties ∈ GW := gw_in (tb6 (i := 104) rfl) rfl
theorem w6_105 : Cond.code yX10_empties prog_12_method_8_code 2 (Option.none : Option FieldType) ∈ GW := gw_in (tb6 (i := 105) rfl) rfl
theorem w6_106 : Cond.fieldLink "SpillPlannerModel" 1 "SpillPlannerModel" "thrown" "I" ∈ GW := gw_in (tb6 (i := 106) rfl) rfl
theorem w6_107 : Cond.fieldLink "SpillPlannerModel" 17 "SpillPlannerModel" "blocks" "I" ∈ GW := gw_in (tb6 (i := 107) rfl) rfl
theorem w6_108 : Cond.fieldLink "SpillPlannerModel" 20 "SpillPlannerModel" "blocksWere" "I" ∈ GW := gw_in (tb6 (i := 108) rfl) rfl
theorem w6_109 : Cond.fieldLink "SpillPlannerModel" 23 "SpillPlannerModel" "many" "[I" ∈ GW := gw_in (tb6 (i := 109) rfl) rfl
theorem w6_110 : Cond.fieldLink "SpillPlannerModel" 27 "SpillPlannerModel" "end" "[I" ∈ GW := gw_in (tb6 (i := 110) rfl) rfl
theorem w6_111 : Cond.fieldLink "SpillPlannerModel" 30 "SpillPlannerModel" "endBy" "[I" ∈ GW := gw_in (tb6 (i := 111) rfl) rfl
theorem w6_112 : Cond.fieldLink "SpillPlannerModel" 33 "SpillPlannerModel" "first" "[I" ∈ GW := gw_in (tb6 (i := 112) rfl) rfl
theorem w6_113 : Cond.fieldLink "SpillPlannerModel" 36 "SpillPlannerModel" "second" "[I" ∈ GW := gw_in (tb6 (i := 113) rfl) rfl
theorem w6_114 : Cond.fieldLink "SpillPlannerModel" 39 "SpillPlannerModel" "often" "[I" ∈ GW := gw_in (tb6 (i := 114) rfl) rfl
theorem w6_115 : Cond.fieldLink "SpillPlannerModel" 42 "SpillPlannerModel" "kind" "[I" ∈ GW := gw_in (tb6 (i := 115) rfl) rfl
theorem w6_116 : Cond.fieldLink "SpillPlannerModel" 45 "SpillPlannerModel" "target" "[I" ∈ GW := gw_in (tb6 (i := 116) rfl) rfl
theorem w6_117 : Cond.fieldLink "SpillPlannerModel" 48 "SpillPlannerModel" "a" "[I" ∈ GW := gw_in (tb6 (i := 117) rfl) rfl
theorem w6_118 : Cond.fieldLink "SpillPlannerModel" 51 "SpillPlannerModel" "b" "[I" ∈ GW := gw_in (tb6 (i := 118) rfl) rfl
theorem w6_119 : Cond.fieldLink "SpillPlannerModel" 54 "SpillPlannerModel" "initial" "[I" ∈ GW := gw_in (tb6 (i := 119) rfl) rfl
theorem w6_120 : Cond.fieldLink "SpillPlannerModel" 57 "SpillPlannerModel" "isPlanned" "Z" ∈ GW := gw_in (tb6 (i := 120) rfl) rfl
theorem w6_121 : Cond.fieldLink "SpillPlannerModel" 61 "SpillPlannerModel" "liveAt" "[I" ∈ GW := gw_in (tb6 (i := 121) rfl) rfl
theorem w6_122 : Cond.fieldLink "SpillPlannerModel" 64 "SpillPlannerModel" "against" "[I" ∈ GW := gw_in (tb6 (i := 122) rfl) rfl
theorem w6_123 : Cond.fieldLink "SpillPlannerModel" 67 "SpillPlannerModel" "loops" "I" ∈ GW := gw_in (tb6 (i := 123) rfl) rfl
theorem w6_124 : Cond.fieldLink "SpillPlannerModel" 70 "SpillPlannerModel" "header" "[I" ∈ GW := gw_in (tb6 (i := 124) rfl) rfl
theorem w6_125 : Cond.fieldLink "SpillPlannerModel" 73 "SpillPlannerModel" "body" "[I" ∈ GW := gw_in (tb6 (i := 125) rfl) rfl
theorem w6_126 : Cond.fieldLink "SpillPlannerModel" 76 "SpillPlannerModel" "registers" "I" ∈ GW := gw_in (tb6 (i := 126) rfl) rfl
theorem w6_127 : Cond.fieldLink "SpillPlannerModel" 79 "SpillPlannerModel" "slots" "I" ∈ GW := gw_in (tb6 (i := 127) rfl) rfl
theorem w6_128 : Cond.fieldLink "SpillPlannerModel" 82 "SpillPlannerModel" "gains" "I" ∈ GW := gw_in (tb6 (i := 128) rfl) rfl
theorem w6_129 : Cond.fieldLink "SpillPlannerModel" 85 "SpillPlannerModel" "home" "[I" ∈ GW := gw_in (tb6 (i := 129) rfl) rfl
theorem w6_130 : Cond.fieldLink "SpillPlannerModel" 88 "SpillPlannerModel" "colour" "[I" ∈ GW := gw_in (tb6 (i := 130) rfl) rfl
theorem w6_131 : Cond.fieldLink "SpillPlannerModel" 91 "SpillPlannerModel" "slot" "[I" ∈ GW := gw_in (tb6 (i := 131) rfl) rfl
theorem w6_132 : Cond.fieldLink "SpillPlannerModel" 94 "SpillPlannerModel" "promotedTo" "[I" ∈ GW := gw_in (tb6 (i := 132) rfl) rfl
theorem w6_133 : Cond.fieldLink "SpillPlannerModel" 97 "SpillPlannerModel" "homeWas" "[I" ∈ GW := gw_in (tb6 (i := 133) rfl) rfl
theorem w6_134 : Cond.fieldLink "SpillPlannerModel" 100 "SpillPlannerModel" "colourWas" "[I" ∈ GW := gw_in (tb6 (i := 134) rfl) rfl
theorem w6_135 : Cond.fieldLink "SpillPlannerModel" 103 "SpillPlannerModel" "slotWas" "[I" ∈ GW := gw_in (tb6 (i := 135) rfl) rfl
theorem w6_136 : Cond.fieldLink "SpillPlannerModel" 106 "SpillPlannerModel" "value" "[I" ∈ GW := gw_in (tb6 (i := 136) rfl) rfl
theorem w6_137 : Cond.fieldLink "SpillPlannerModel" 109 "SpillPlannerModel" "inRegister" "[I" ∈ GW := gw_in (tb6 (i := 137) rfl) rfl
theorem w6_138 : Cond.fieldLink "SpillPlannerModel" 112 "SpillPlannerModel" "inSlot" "[I" ∈ GW := gw_in (tb6 (i := 138) rfl) rfl
theorem w6_139 : Cond.fieldLink "SpillPlannerModel" 115 "SpillPlannerModel" "counts" "[I" ∈ GW := gw_in (tb6 (i := 139) rfl) rfl
theorem w6_140 : Cond.fieldLink "SpillPlannerModel" 118 "SpillPlannerModel" "countsNow" "[I" ∈ GW := gw_in (tb6 (i := 140) rfl) rfl
theorem w6_141 : Cond.fieldLink "SpillPlannerModel" 121 "SpillPlannerModel" "visits" "[I" ∈ GW := gw_in (tb6 (i := 141) rfl) rfl
theorem w6_142 : Cond.fieldLink "SpillPlannerModel" 124 "SpillPlannerModel" "visitsNow" "[I" ∈ GW := gw_in (tb6 (i := 142) rfl) rfl
theorem w6_143 : Cond.fieldLink "SpillPlannerModel" 127 "SpillPlannerModel" "scratch" "[I" ∈ GW := gw_in (tb6 (i := 143) rfl) rfl
theorem w6_144 : Cond.fieldLink "SpillPlannerModel" 130 "SpillPlannerModel" "lessRecent" "I" ∈ GW := gw_in (tb6 (i := 144) rfl) rfl
theorem w6_145 : Cond.fieldLink "SpillPlannerModel" 133 "SpillPlannerModel" "blockNow" "I" ∈ GW := gw_in (tb6 (i := 145) rfl) rfl
theorem w6_146 : Cond.fieldLink "SpillPlannerModel" 136 "SpillPlannerModel" "byPlan" "Z" ∈ GW := gw_in (tb6 (i := 146) rfl) rfl
theorem w6_147 : Cond.fieldLink "SpillPlannerModel" 139 "SpillPlannerModel" "result" "I" ∈ GW := gw_in (tb6 (i := 147) rfl) rfl
theorem w6_148 : Cond.fieldLink "SpillPlannerModel" 142 "SpillPlannerModel" "input" "[I" ∈ GW := gw_in (tb6 (i := 148) rfl) rfl
theorem w6_149 : Cond.fieldLink "SpillPlannerModel" 145 "SpillPlannerModel" "fed" "I" ∈ GW := gw_in (tb6 (i := 149) rfl) rfl
theorem w6_150 : Cond.fieldLink "SpillPlannerModel" 148 "SpillPlannerModel" "at" "I" ∈ GW := gw_in (tb6 (i := 150) rfl) rfl
theorem w6_151 : Cond.fieldLink "SpillPlannerModel" 151 "SpillPlannerModel" "isWrong" "Z" ∈ GW := gw_in (tb6 (i := 151) rfl) rfl
theorem w6_152 : Cond.fieldLink "SpillPlannerModel" 154 "SpillPlannerModel" "readKind" "[I" ∈ GW := gw_in (tb6 (i := 152) rfl) rfl
theorem w6_153 : Cond.fieldLink "SpillPlannerModel" 157 "SpillPlannerModel" "readTarget" "[I" ∈ GW := gw_in (tb6 (i := 153) rfl) rfl
theorem w6_154 : Cond.fieldLink "SpillPlannerModel" 160 "SpillPlannerModel" "readA" "[I" ∈ GW := gw_in (tb6 (i := 154) rfl) rfl
theorem w6_155 : Cond.fieldLink "SpillPlannerModel" 163 "SpillPlannerModel" "readB" "[I" ∈ GW := gw_in (tb6 (i := 155) rfl) rfl
theorem w6_156 : Cond.fieldLink "SpillPlannerModel" 166 "SpillPlannerModel" "readMany" "I" ∈ GW := gw_in (tb6 (i := 156) rfl) rfl
theorem w6_157 : Cond.fieldLink "SpillPlannerModel" 169 "SpillPlannerModel" "readEnd" "I" ∈ GW := gw_in (tb6 (i := 157) rfl) rfl
theorem w6_158 : Cond.fieldLink "SpillPlannerModel" 172 "SpillPlannerModel" "readBy" "I" ∈ GW := gw_in (tb6 (i := 158) rfl) rfl
theorem w6_159 : Cond.fieldLink "SpillPlannerModel" 175 "SpillPlannerModel" "readFirst" "I" ∈ GW := gw_in (tb6 (i := 159) rfl) rfl
theorem w6_160 : Cond.fieldLink "SpillPlannerModel" 178 "SpillPlannerModel" "readSecond" "I" ∈ GW := gw_in (tb6 (i := 160) rfl) rfl
theorem w6_161 : Cond.fieldLink "SpillPlannerModel" 181 "SpillPlannerModel" "manyWas" "[I" ∈ GW := gw_in (tb6 (i := 161) rfl) rfl
theorem w6_162 : Cond.fieldLink "SpillPlannerModel" 184 "SpillPlannerModel" "endWas" "[I" ∈ GW := gw_in (tb6 (i := 162) rfl) rfl
theorem w6_163 : Cond.fieldLink "SpillPlannerModel" 187 "SpillPlannerModel" "endByWas" "[I" ∈ GW := gw_in (tb6 (i := 163) rfl) rfl
theorem w6_164 : Cond.fieldLink "SpillPlannerModel" 190 "SpillPlannerModel" "firstWas" "[I" ∈ GW := gw_in (tb6 (i := 164) rfl) rfl
theorem w6_165 : Cond.fieldLink "SpillPlannerModel" 193 "SpillPlannerModel" "secondWas" "[I" ∈ GW := gw_in (tb6 (i := 165) rfl) rfl
theorem w6_166 : Cond.fieldLink "SpillPlannerModel" 196 "SpillPlannerModel" "oftenWas" "[I" ∈ GW := gw_in (tb6 (i := 166) rfl) rfl
theorem w6_167 : Cond.fieldLink "SpillPlannerModel" 199 "SpillPlannerModel" "kindWas" "[I" ∈ GW := gw_in (tb6 (i := 167) rfl) rfl
theorem w6_168 : Cond.fieldLink "SpillPlannerModel" 202 "SpillPlannerModel" "targetWas" "[I" ∈ GW := gw_in (tb6 (i := 168) rfl) rfl
theorem w6_169 : Cond.fieldLink "SpillPlannerModel" 205 "SpillPlannerModel" "aWas" "[I" ∈ GW := gw_in (tb6 (i := 169) rfl) rfl
theorem w6_170 : Cond.fieldLink "SpillPlannerModel" 208 "SpillPlannerModel" "bWas" "[I" ∈ GW := gw_in (tb6 (i := 170) rfl) rfl
theorem w6_171 : Cond.fieldLink "SpillPlannerModel" 211 "SpillPlannerModel" "initialWas" "[I" ∈ GW := gw_in (tb6 (i := 171) rfl) rfl
theorem w6_172 : Cond.lays "SpillPlannerModel" "SpillPlannerModel" "thrown" "I" ∈ GW := gw_in (tb6 (i := 172) rfl) rfl
theorem w6_173 : Cond.soleField "SpillPlannerModel" "thrown" ∈ GW := gw_in (tb6 (i := 173) rfl) rfl
theorem w6_174 : Cond.lays "SpillPlannerModel" "SpillPlannerModel" "blocks" "I" ∈ GW := gw_in (tb6 (i := 174) rfl) rfl
theorem w6_175 : Cond.soleField "SpillPlannerModel" "blocks" ∈ GW := gw_in (tb6 (i := 175) rfl) rfl
theorem w6_176 : Cond.lays "SpillPlannerModel" "SpillPlannerModel" "blocksWere" "I" ∈ GW := gw_in (tb6 (i := 176) rfl) rfl
theorem w6_177 : Cond.soleField "SpillPlannerModel" "blocksWere" ∈ GW := gw_in (tb6 (i := 177) rfl) rfl
theorem w6_178 : Cond.laysFinal "SpillPlannerModel" "SpillPlannerModel" "many" "[I" ∈ GW := gw_in (tb6 (i := 178) rfl) rfl
theorem w6_179 : Cond.soleField "SpillPlannerModel" "many" ∈ GW := gw_in (tb6 (i := 179) rfl) rfl
theorem w6_180 : Cond.laysFinal "SpillPlannerModel" "SpillPlannerModel" "end" "[I" ∈ GW := gw_in (tb6 (i := 180) rfl) rfl
theorem w6_181 : Cond.soleField "SpillPlannerModel" "end" ∈ GW := gw_in (tb6 (i := 181) rfl) rfl
theorem w6_182 : Cond.laysFinal "SpillPlannerModel" "SpillPlannerModel" "endBy" "[I" ∈ GW := gw_in (tb6 (i := 182) rfl) rfl
theorem w6_183 : Cond.soleField "SpillPlannerModel" "endBy" ∈ GW := gw_in (tb6 (i := 183) rfl) rfl
theorem w6_184 : Cond.laysFinal "SpillPlannerModel" "SpillPlannerModel" "first" "[I" ∈ GW := gw_in (tb6 (i := 184) rfl) rfl
theorem w6_185 : Cond.soleField "SpillPlannerModel" "first" ∈ GW := gw_in (tb6 (i := 185) rfl) rfl
theorem w6_186 : Cond.laysFinal "SpillPlannerModel" "SpillPlannerModel" "second" "[I" ∈ GW := gw_in (tb6 (i := 186) rfl) rfl
theorem w6_187 : Cond.soleField "SpillPlannerModel" "second" ∈ GW := gw_in (tb6 (i := 187) rfl) rfl
theorem w6_188 : Cond.laysFinal "SpillPlannerModel" "SpillPlannerModel" "often" "[I" ∈ GW := gw_in (tb6 (i := 188) rfl) rfl
theorem w6_189 : Cond.soleField "SpillPlannerModel" "often" ∈ GW := gw_in (tb6 (i := 189) rfl) rfl
theorem w6_190 : Cond.laysFinal "SpillPlannerModel" "SpillPlannerModel" "kind" "[I" ∈ GW := gw_in (tb6 (i := 190) rfl) rfl
theorem w6_191 : Cond.soleField "SpillPlannerModel" "kind" ∈ GW := gw_in (tb6 (i := 191) rfl) rfl
theorem w6_192 : Cond.laysFinal "SpillPlannerModel" "SpillPlannerModel" "target" "[I" ∈ GW := gw_in (tb6 (i := 192) rfl) rfl
theorem w6_193 : Cond.soleField "SpillPlannerModel" "target" ∈ GW := gw_in (tb6 (i := 193) rfl) rfl
theorem w6_194 : Cond.laysFinal "SpillPlannerModel" "SpillPlannerModel" "a" "[I" ∈ GW := gw_in (tb6 (i := 194) rfl) rfl
theorem w6_195 : Cond.soleField "SpillPlannerModel" "a" ∈ GW := gw_in (tb6 (i := 195) rfl) rfl
theorem w6_196 : Cond.laysFinal "SpillPlannerModel" "SpillPlannerModel" "b" "[I" ∈ GW := gw_in (tb6 (i := 196) rfl) rfl
theorem w6_197 : Cond.soleField "SpillPlannerModel" "b" ∈ GW := gw_in (tb6 (i := 197) rfl) rfl
theorem w6_198 : Cond.laysFinal "SpillPlannerModel" "SpillPlannerModel" "initial" "[I" ∈ GW := gw_in (tb6 (i := 198) rfl) rfl
theorem w6_199 : Cond.soleField "SpillPlannerModel" "initial" ∈ GW := gw_in (tb6 (i := 199) rfl) rfl
theorem w6_200 : Cond.lays "SpillPlannerModel" "SpillPlannerModel" "isPlanned" "Z" ∈ GW := gw_in (tb6 (i := 200) rfl) rfl
theorem w6_201 : Cond.soleField "SpillPlannerModel" "isPlanned" ∈ GW := gw_in (tb6 (i := 201) rfl) rfl
theorem w6_202 : Cond.laysFinal "SpillPlannerModel" "SpillPlannerModel" "liveAt" "[I" ∈ GW := gw_in (tb6 (i := 202) rfl) rfl
theorem w6_203 : Cond.soleField "SpillPlannerModel" "liveAt" ∈ GW := gw_in (tb6 (i := 203) rfl) rfl
theorem w6_204 : Cond.laysFinal "SpillPlannerModel" "SpillPlannerModel" "against" "[I" ∈ GW := gw_in (tb6 (i := 204) rfl) rfl
theorem w6_205 : Cond.soleField "SpillPlannerModel" "against" ∈ GW := gw_in (tb6 (i := 205) rfl) rfl
theorem w6_206 : Cond.lays "SpillPlannerModel" "SpillPlannerModel" "loops" "I" ∈ GW := gw_in (tb6 (i := 206) rfl) rfl
theorem w6_207 : Cond.soleField "SpillPlannerModel" "loops" ∈ GW := gw_in (tb6 (i := 207) rfl) rfl
theorem w6_208 : Cond.laysFinal "SpillPlannerModel" "SpillPlannerModel" "header" "[I" ∈ GW := gw_in (tb6 (i := 208) rfl) rfl
theorem w6_209 : Cond.soleField "SpillPlannerModel" "header" ∈ GW := gw_in (tb6 (i := 209) rfl) rfl
theorem w6_210 : Cond.laysFinal "SpillPlannerModel" "SpillPlannerModel" "body" "[I" ∈ GW := gw_in (tb6 (i := 210) rfl) rfl
theorem w6_211 : Cond.soleField "SpillPlannerModel" "body" ∈ GW := gw_in (tb6 (i := 211) rfl) rfl
theorem w6_212 : Cond.lays "SpillPlannerModel" "SpillPlannerModel" "registers" "I" ∈ GW := gw_in (tb6 (i := 212) rfl) rfl
theorem w6_213 : Cond.soleField "SpillPlannerModel" "registers" ∈ GW := gw_in (tb6 (i := 213) rfl) rfl
theorem w6_214 : Cond.lays "SpillPlannerModel" "SpillPlannerModel" "slots" "I" ∈ GW := gw_in (tb6 (i := 214) rfl) rfl
theorem w6_215 : Cond.soleField "SpillPlannerModel" "slots" ∈ GW := gw_in (tb6 (i := 215) rfl) rfl
theorem w6_216 : Cond.lays "SpillPlannerModel" "SpillPlannerModel" "gains" "I" ∈ GW := gw_in (tb6 (i := 216) rfl) rfl
theorem w6_217 : Cond.soleField "SpillPlannerModel" "gains" ∈ GW := gw_in (tb6 (i := 217) rfl) rfl
theorem w6_218 : Cond.laysFinal "SpillPlannerModel" "SpillPlannerModel" "home" "[I" ∈ GW := gw_in (tb6 (i := 218) rfl) rfl
theorem w6_219 : Cond.soleField "SpillPlannerModel" "home" ∈ GW := gw_in (tb6 (i := 219) rfl) rfl
theorem w6_220 : Cond.laysFinal "SpillPlannerModel" "SpillPlannerModel" "colour" "[I" ∈ GW := gw_in (tb6 (i := 220) rfl) rfl
theorem w6_221 : Cond.soleField "SpillPlannerModel" "colour" ∈ GW := gw_in (tb6 (i := 221) rfl) rfl
theorem w6_222 : Cond.laysFinal "SpillPlannerModel" "SpillPlannerModel" "slot" "[I" ∈ GW := gw_in (tb6 (i := 222) rfl) rfl
theorem w6_223 : Cond.soleField "SpillPlannerModel" "slot" ∈ GW := gw_in (tb6 (i := 223) rfl) rfl
theorem w6_224 : Cond.laysFinal "SpillPlannerModel" "SpillPlannerModel" "promotedTo" "[I" ∈ GW := gw_in (tb6 (i := 224) rfl) rfl
theorem w6_225 : Cond.soleField "SpillPlannerModel" "promotedTo" ∈ GW := gw_in (tb6 (i := 225) rfl) rfl
theorem w6_226 : Cond.laysFinal "SpillPlannerModel" "SpillPlannerModel" "homeWas" "[I" ∈ GW := gw_in (tb6 (i := 226) rfl) rfl
theorem w6_227 : Cond.soleField "SpillPlannerModel" "homeWas" ∈ GW := gw_in (tb6 (i := 227) rfl) rfl
theorem w6_228 : Cond.laysFinal "SpillPlannerModel" "SpillPlannerModel" "colourWas" "[I" ∈ GW := gw_in (tb6 (i := 228) rfl) rfl
theorem w6_229 : Cond.soleField "SpillPlannerModel" "colourWas" ∈ GW := gw_in (tb6 (i := 229) rfl) rfl
theorem w6_230 : Cond.laysFinal "SpillPlannerModel" "SpillPlannerModel" "slotWas" "[I" ∈ GW := gw_in (tb6 (i := 230) rfl) rfl
theorem w6_231 : Cond.soleField "SpillPlannerModel" "slotWas" ∈ GW := gw_in (tb6 (i := 231) rfl) rfl
theorem w6_232 : Cond.laysFinal "SpillPlannerModel" "SpillPlannerModel" "value" "[I" ∈ GW := gw_in (tb6 (i := 232) rfl) rfl
theorem w6_233 : Cond.soleField "SpillPlannerModel" "value" ∈ GW := gw_in (tb6 (i := 233) rfl) rfl
theorem w6_234 : Cond.laysFinal "SpillPlannerModel" "SpillPlannerModel" "inRegister" "[I" ∈ GW := gw_in (tb6 (i := 234) rfl) rfl
theorem w6_235 : Cond.soleField "SpillPlannerModel" "inRegister" ∈ GW := gw_in (tb6 (i := 235) rfl) rfl
theorem w6_236 : Cond.laysFinal "SpillPlannerModel" "SpillPlannerModel" "inSlot" "[I" ∈ GW := gw_in (tb6 (i := 236) rfl) rfl
theorem w6_237 : Cond.soleField "SpillPlannerModel" "inSlot" ∈ GW := gw_in (tb6 (i := 237) rfl) rfl
theorem w6_238 : Cond.laysFinal "SpillPlannerModel" "SpillPlannerModel" "counts" "[I" ∈ GW := gw_in (tb6 (i := 238) rfl) rfl
theorem w6_239 : Cond.soleField "SpillPlannerModel" "counts" ∈ GW := gw_in (tb6 (i := 239) rfl) rfl
theorem w7_0 : Cond.laysFinal "SpillPlannerModel" "SpillPlannerModel" "countsNow" "[I" ∈ GW := gw_in (tb7 (i := 0) rfl) rfl
theorem w7_1 : Cond.soleField "SpillPlannerModel" "countsNow" ∈ GW := gw_in (tb7 (i := 1) rfl) rfl
theorem w7_2 : Cond.laysFinal "SpillPlannerModel" "SpillPlannerModel" "visits" "[I" ∈ GW := gw_in (tb7 (i := 2) rfl) rfl
theorem w7_3 : Cond.soleField "SpillPlannerModel" "visits" ∈ GW := gw_in (tb7 (i := 3) rfl) rfl
theorem w7_4 : Cond.laysFinal "SpillPlannerModel" "SpillPlannerModel" "visitsNow" "[I" ∈ GW := gw_in (tb7 (i := 4) rfl) rfl
theorem w7_5 : Cond.soleField "SpillPlannerModel" "visitsNow" ∈ GW := gw_in (tb7 (i := 5) rfl) rfl
theorem w7_6 : Cond.laysFinal "SpillPlannerModel" "SpillPlannerModel" "scratch" "[I" ∈ GW := gw_in (tb7 (i := 6) rfl) rfl
theorem w7_7 : Cond.soleField "SpillPlannerModel" "scratch" ∈ GW := gw_in (tb7 (i := 7) rfl) rfl
theorem w7_8 : Cond.lays "SpillPlannerModel" "SpillPlannerModel" "lessRecent" "I" ∈ GW := gw_in (tb7 (i := 8) rfl) rfl
theorem w7_9 : Cond.soleField "SpillPlannerModel" "lessRecent" ∈ GW := gw_in (tb7 (i := 9) rfl) rfl
theorem w7_10 : Cond.lays "SpillPlannerModel" "SpillPlannerModel" "blockNow" "I" ∈ GW := gw_in (tb7 (i := 10) rfl) rfl
theorem w7_11 : Cond.soleField "SpillPlannerModel" "blockNow" ∈ GW := gw_in (tb7 (i := 11) rfl) rfl
theorem w7_12 : Cond.lays "SpillPlannerModel" "SpillPlannerModel" "byPlan" "Z" ∈ GW := gw_in (tb7 (i := 12) rfl) rfl
theorem w7_13 : Cond.soleField "SpillPlannerModel" "byPlan" ∈ GW := gw_in (tb7 (i := 13) rfl) rfl
theorem w7_14 : Cond.lays "SpillPlannerModel" "SpillPlannerModel" "result" "I" ∈ GW := gw_in (tb7 (i := 14) rfl) rfl
theorem w7_15 : Cond.soleField "SpillPlannerModel" "result" ∈ GW := gw_in (tb7 (i := 15) rfl) rfl
theorem w7_16 : Cond.laysFinal "SpillPlannerModel" "SpillPlannerModel" "input" "[I" ∈ GW := gw_in (tb7 (i := 16) rfl) rfl
theorem w7_17 : Cond.soleField "SpillPlannerModel" "input" ∈ GW := gw_in (tb7 (i := 17) rfl) rfl
theorem w7_18 : Cond.lays "SpillPlannerModel" "SpillPlannerModel" "fed" "I" ∈ GW := gw_in (tb7 (i := 18) rfl) rfl
theorem w7_19 : Cond.soleField "SpillPlannerModel" "fed" ∈ GW := gw_in (tb7 (i := 19) rfl) rfl
theorem w7_20 : Cond.lays "SpillPlannerModel" "SpillPlannerModel" "at" "I" ∈ GW := gw_in (tb7 (i := 20) rfl) rfl
theorem w7_21 : Cond.soleField "SpillPlannerModel" "at" ∈ GW := gw_in (tb7 (i := 21) rfl) rfl
theorem w7_22 : Cond.lays "SpillPlannerModel" "SpillPlannerModel" "isWrong" "Z" ∈ GW := gw_in (tb7 (i := 22) rfl) rfl
theorem w7_23 : Cond.soleField "SpillPlannerModel" "isWrong" ∈ GW := gw_in (tb7 (i := 23) rfl) rfl
theorem w7_24 : Cond.laysFinal "SpillPlannerModel" "SpillPlannerModel" "readKind" "[I" ∈ GW := gw_in (tb7 (i := 24) rfl) rfl
theorem w7_25 : Cond.soleField "SpillPlannerModel" "readKind" ∈ GW := gw_in (tb7 (i := 25) rfl) rfl
theorem w7_26 : Cond.laysFinal "SpillPlannerModel" "SpillPlannerModel" "readTarget" "[I" ∈ GW := gw_in (tb7 (i := 26) rfl) rfl
theorem w7_27 : Cond.soleField "SpillPlannerModel" "readTarget" ∈ GW := gw_in (tb7 (i := 27) rfl) rfl
theorem w7_28 : Cond.laysFinal "SpillPlannerModel" "SpillPlannerModel" "readA" "[I" ∈ GW := gw_in (tb7 (i := 28) rfl) rfl
theorem w7_29 : Cond.soleField "SpillPlannerModel" "readA" ∈ GW := gw_in (tb7 (i := 29) rfl) rfl
theorem w7_30 : Cond.laysFinal "SpillPlannerModel" "SpillPlannerModel" "readB" "[I" ∈ GW := gw_in (tb7 (i := 30) rfl) rfl
theorem w7_31 : Cond.soleField "SpillPlannerModel" "readB" ∈ GW := gw_in (tb7 (i := 31) rfl) rfl
theorem w7_32 : Cond.lays "SpillPlannerModel" "SpillPlannerModel" "readMany" "I" ∈ GW := gw_in (tb7 (i := 32) rfl) rfl
theorem w7_33 : Cond.soleField "SpillPlannerModel" "readMany" ∈ GW := gw_in (tb7 (i := 33) rfl) rfl
theorem w7_34 : Cond.lays "SpillPlannerModel" "SpillPlannerModel" "readEnd" "I" ∈ GW := gw_in (tb7 (i := 34) rfl) rfl
theorem w7_35 : Cond.soleField "SpillPlannerModel" "readEnd" ∈ GW := gw_in (tb7 (i := 35) rfl) rfl
theorem w7_36 : Cond.lays "SpillPlannerModel" "SpillPlannerModel" "readBy" "I" ∈ GW := gw_in (tb7 (i := 36) rfl) rfl
theorem w7_37 : Cond.soleField "SpillPlannerModel" "readBy" ∈ GW := gw_in (tb7 (i := 37) rfl) rfl
theorem w7_38 : Cond.lays "SpillPlannerModel" "SpillPlannerModel" "readFirst" "I" ∈ GW := gw_in (tb7 (i := 38) rfl) rfl
theorem w7_39 : Cond.soleField "SpillPlannerModel" "readFirst" ∈ GW := gw_in (tb7 (i := 39) rfl) rfl
theorem w7_40 : Cond.lays "SpillPlannerModel" "SpillPlannerModel" "readSecond" "I" ∈ GW := gw_in (tb7 (i := 40) rfl) rfl
theorem w7_41 : Cond.soleField "SpillPlannerModel" "readSecond" ∈ GW := gw_in (tb7 (i := 41) rfl) rfl
theorem w7_42 : Cond.laysFinal "SpillPlannerModel" "SpillPlannerModel" "manyWas" "[I" ∈ GW := gw_in (tb7 (i := 42) rfl) rfl
theorem w7_43 : Cond.soleField "SpillPlannerModel" "manyWas" ∈ GW := gw_in (tb7 (i := 43) rfl) rfl
theorem w7_44 : Cond.laysFinal "SpillPlannerModel" "SpillPlannerModel" "endWas" "[I" ∈ GW := gw_in (tb7 (i := 44) rfl) rfl
theorem w7_45 : Cond.soleField "SpillPlannerModel" "endWas" ∈ GW := gw_in (tb7 (i := 45) rfl) rfl
theorem w7_46 : Cond.laysFinal "SpillPlannerModel" "SpillPlannerModel" "endByWas" "[I" ∈ GW := gw_in (tb7 (i := 46) rfl) rfl
theorem w7_47 : Cond.soleField "SpillPlannerModel" "endByWas" ∈ GW := gw_in (tb7 (i := 47) rfl) rfl
theorem w7_48 : Cond.laysFinal "SpillPlannerModel" "SpillPlannerModel" "firstWas" "[I" ∈ GW := gw_in (tb7 (i := 48) rfl) rfl
theorem w7_49 : Cond.soleField "SpillPlannerModel" "firstWas" ∈ GW := gw_in (tb7 (i := 49) rfl) rfl
theorem w7_50 : Cond.laysFinal "SpillPlannerModel" "SpillPlannerModel" "secondWas" "[I" ∈ GW := gw_in (tb7 (i := 50) rfl) rfl
theorem w7_51 : Cond.soleField "SpillPlannerModel" "secondWas" ∈ GW := gw_in (tb7 (i := 51) rfl) rfl
theorem w7_52 : Cond.laysFinal "SpillPlannerModel" "SpillPlannerModel" "oftenWas" "[I" ∈ GW := gw_in (tb7 (i := 52) rfl) rfl
theorem w7_53 : Cond.soleField "SpillPlannerModel" "oftenWas" ∈ GW := gw_in (tb7 (i := 53) rfl) rfl
theorem w7_54 : Cond.laysFinal "SpillPlannerModel" "SpillPlannerModel" "kindWas" "[I" ∈ GW := gw_in (tb7 (i := 54) rfl) rfl
theorem w7_55 : Cond.soleField "SpillPlannerModel" "kindWas" ∈ GW := gw_in (tb7 (i := 55) rfl) rfl
theorem w7_56 : Cond.laysFinal "SpillPlannerModel" "SpillPlannerModel" "targetWas" "[I" ∈ GW := gw_in (tb7 (i := 56) rfl) rfl
theorem w7_57 : Cond.soleField "SpillPlannerModel" "targetWas" ∈ GW := gw_in (tb7 (i := 57) rfl) rfl
theorem w7_58 : Cond.laysFinal "SpillPlannerModel" "SpillPlannerModel" "aWas" "[I" ∈ GW := gw_in (tb7 (i := 58) rfl) rfl
theorem w7_59 : Cond.soleField "SpillPlannerModel" "aWas" ∈ GW := gw_in (tb7 (i := 59) rfl) rfl
theorem w7_60 : Cond.laysFinal "SpillPlannerModel" "SpillPlannerModel" "bWas" "[I" ∈ GW := gw_in (tb7 (i := 60) rfl) rfl
theorem w7_61 : Cond.soleField "SpillPlannerModel" "bWas" ∈ GW := gw_in (tb7 (i := 61) rfl) rfl
theorem w7_62 : Cond.laysFinal "SpillPlannerModel" "SpillPlannerModel" "initialWas" "[I" ∈ GW := gw_in (tb7 (i := 62) rfl) rfl
theorem w7_63 : Cond.soleField "SpillPlannerModel" "initialWas" ∈ GW := gw_in (tb7 (i := 63) rfl) rfl
theorem w7_64 : Cond.superclass "SpillPlannerModel" "java/lang/Object" ∈ GW := gw_in (tb7 (i := 64) rfl) rfl
theorem w7_65 : Cond.methodLink "SpillPlannerLaw" 106 yX10_clear ∈ GW := gw_in (tb7 (i := 65) rfl) rfl
theorem w7_66 : Cond.instanceMethod yX10_clear ∈ GW := gw_in (tb7 (i := 66) rfl) rfl
theorem w7_67 : Cond.selects "SpillPlannerModel" yX10_clear yX10_clear ∈ GW := gw_in (tb7 (i := 67) rfl) rfl
theorem w7_68 : Cond.code yX10_clear prog_12_method_10_code 3 (Option.some FieldType.int) ∈ GW := gw_in (tb7 (i := 68) rfl) rfl
theorem w7_69 : Cond.methodLink "SpillPlannerModel" 7 yX10_in ∈ GW := gw_in (tb7 (i := 69) rfl) rfl
theorem w7_70 : Cond.static yX10_in ∈ GW := gw_in (tb7 (i := 70) rfl) rfl
theorem w7_71 : Cond.code yX10_in prog_12_method_2_code 3 (Option.some FieldType.boolean) ∈ GW := gw_in (tb7 (i := 71) rfl) rfl
theorem w7_72 : Cond.methodLink "SpillPlannerModel" 217 yX10_fails ∈ GW := gw_in (tb7 (i := 72) rfl) rfl
theorem w7_74 : Cond.instanceMethod yX10_fails ∈ GW := gw_in (tb7 (i := 74) rfl) rfl
theorem w7_75 : Cond.code yX10_fails prog_12_method_3_code 2 (Option.some FieldType.int) ∈ GW := gw_in (tb7 (i := 75) rfl) rfl
theorem w7_76 : Cond.methodLink "SpillPlannerLaw" 113 yX10_append ∈ GW := gw_in (tb7 (i := 76) rfl) rfl
theorem w7_77 : Cond.instanceMethod yX10_append ∈ GW := gw_in (tb7 (i := 77) rfl) rfl
theorem w7_78 : Cond.selects "SpillPlannerModel" yX10_append yX10_append ∈ GW := gw_in (tb7 (i := 78) rfl) rfl
theorem w7_79 : Cond.code yX10_append prog_12_method_12_code 6 (Option.some FieldType.int) ∈ GW := gw_in (tb7 (i := 79) rfl) rfl
theorem w7_80 : Cond.methodLink "SpillPlannerModel" 221 yX10_isBlock ∈ GW := gw_in (tb7 (i := 80) rfl) rfl
theorem w7_82 : Cond.instanceMethod yX10_isBlock ∈ GW := gw_in (tb7 (i := 82) rfl) rfl
theorem w7_83 : Cond.code yX10_isBlock prog_12_method_9_code 2 (Option.some FieldType.boolean) ∈ GW := gw_in (tb7 (i := 83) rfl) rfl
theorem w7_84 : Cond.methodLink "SpillPlannerModel" 225 yX10_isVariable ∈ GW := gw_in (tb7 (i := 84) rfl) rfl
theorem w7_85 : Cond.static yX10_isVariable ∈ GW := gw_in (tb7 (i := 85) rfl) rfl
theorem w7_86 : Cond.code yX10_isVariable prog_12_method_6_code 1 (Option.some FieldType.boolean) ∈ GW := gw_in (tb7 (i := 86) rfl) rfl
theorem w7_87 : Cond.methodLink "SpillPlannerModel" 228 yX10_lays ∈ GW := gw_in (tb7 (i := 87) rfl) rfl
theorem w7_89 : Cond.instanceMethod yX10_lays ∈ GW := gw_in (tb7 (i := 89) rfl) rfl
theorem w7_90 : Cond.code yX10_lays prog_12_method_11_code 7 (Option.none : Option FieldType) ∈ GW := gw_in (tb7 (i := 90) rfl) rfl
theorem w7_91 : Cond.methodLink "SpillPlannerLaw" 116 yX10_removeLast ∈ GW := gw_in (tb7 (i := 91) rfl) rfl
theorem w7_92 : Cond.instanceMethod yX10_removeLast ∈ GW := gw_in (tb7 (i := 92) rfl) rfl
theorem w7_93 : Cond.selects "SpillPlannerModel" yX10_removeLast yX10_removeLast ∈ GW := gw_in (tb7 (i := 93) rfl) rfl
theorem w7_94 : Cond.code yX10_removeLast prog_12_method_13_code 2 (Option.some FieldType.int) ∈ GW := gw_in (tb7 (i := 94) rfl) rfl
theorem w7_95 : Cond.methodLink "SpillPlannerLaw" 119 yX10_setEnd ∈ GW := gw_in (tb7 (i := 95) rfl) rfl
theorem w7_96 : Cond.instanceMethod yX10_setEnd ∈ GW := gw_in (tb7 (i := 96) rfl) rfl
theorem w7_97 : Cond.selects "SpillPlannerModel" yX10_setEnd yX10_setEnd ∈ GW := gw_in (tb7 (i := 97) rfl) rfl
theorem w7_98 : Cond.code yX10_setEnd prog_12_method_15_code 7 (Option.some FieldType.int) ∈ GW := gw_in (tb7 (i := 98) rfl) rfl
theorem w7_99 : Cond.methodLink "SpillPlannerModel" 232 yX10_ends ∈ GW := gw_in (tb7 (i := 99) rfl) rfl
theorem w7_101 : Cond.instanceMethod yX10_ends ∈ GW := gw_in (tb7 (i := 101) rfl) rfl
theorem w7_102 : Cond.code yX10_ends prog_12_method_14_code 6 (Option.none : Option FieldType) ∈ GW := gw_in (tb7 (i := 102) rfl) rfl
theorem w7_103 : Cond.methodLink "SpillPlannerLaw" 123 yX10_setFrequency ∈ GW := gw_in (tb7 (i := 103) rfl) rfl
theorem w7_104 : Cond.instanceMethod yX10_setFrequency ∈ GW := gw_in (tb7 (i := 104) rfl) rfl
theorem w7_105 : Cond.selects "SpillPlannerModel" yX10_setFrequency yX10_setFrequency ∈ GW := gw_in (tb7 (i := 105) rfl) rfl
theorem w7_106 : Cond.code yX10_setFrequency prog_12_method_16_code 4 (Option.some FieldType.int) ∈ GW := gw_in (tb7 (i := 106) rfl) rfl
theorem w7_107 : Cond.methodLink "SpillPlannerLaw" 126 yX10_setInitial ∈ GW := gw_in (tb7 (i := 107) rfl) rfl
theorem w7_108 : Cond.instanceMethod yX10_setInitial ∈ GW := gw_in (tb7 (i := 108) rfl) rfl
theorem w7_109 : Cond.selects "SpillPlannerModel" yX10_setInitial yX10_setInitial ∈ GW := gw_in (tb7 (i := 109) rfl) rfl
theorem w7_110 : Cond.code yX10_setInitial prog_12_method_17_code 4 (Option.some FieldType.int) ∈ GW := gw_in (tb7 (i := 110) rfl) rfl
theorem w7_111 : Cond.methodLink "SpillPlannerLaw" 130 yX10_instruction ∈ GW := gw_in (tb7 (i := 111) rfl) rfl
theorem w7_112 : Cond.instanceMethod yX10_instruction ∈ GW := gw_in (tb7 (i := 112) rfl) rfl
theorem w7_113 : Cond.selects "SpillPlannerModel" yX10_instruction yX10_instruction ∈ GW := gw_in (tb7 (i := 113) rfl) rfl
theorem w7_114 : Cond.code yX10_instruction prog_12_method_18_code 5 (Option.some FieldType.int) ∈ GW := gw_in (tb7 (i := 114) rfl) rfl
theorem w7_115 : Cond.methodLink "SpillPlannerLaw" 133 yX10_block ∈ GW := gw_in (tb7 (i := 115) rfl) rfl
theorem w7_116 : Cond.instanceMethod yX10_block ∈ GW := gw_in (tb7 (i := 116) rfl) rfl
theorem w7_117 : Cond.selects "SpillPlannerModel" yX10_block yX10_block ∈ GW := gw_in (tb7 (i := 117) rfl) rfl
theorem w7_118 : Cond.code yX10_block prog_12_method_19_code 3 (Option.some FieldType.int) ∈ GW := gw_in (tb7 (i := 118) rfl) rfl
theorem w7_119 : Cond.methodLink "SpillPlannerLaw" 136 yX10_live ∈ GW := gw_in (tb7 (i := 119) rfl) rfl
theorem w7_120 : Cond.instanceMethod yX10_live ∈ GW := gw_in (tb7 (i := 120) rfl) rfl
theorem w7_121 : Cond.selects "SpillPlannerModel" yX10_live yX10_live ∈ GW := gw_in (tb7 (i := 121) rfl) rfl
theorem w7_122 : Cond.code yX10_live prog_12_method_26_code 3 (Option.some FieldType.int) ∈ GW := gw_in (tb7 (i := 122) rfl) rfl
theorem w7_123 : Cond.methodLink "SpillPlannerModel" 252 yX10_layLive ∈ GW := gw_in (tb7 (i := 123) rfl) rfl
theorem w7_125 : Cond.instanceMethod yX10_layLive ∈ GW := gw_in (tb7 (i := 125) rfl) rfl
theorem w7_126 : Cond.code yX10_layLive prog_12_method_25_code 4 (Option.none : Option FieldType) ∈ GW := gw_in (tb7 (i := 126) rfl) rfl
theorem w7_127 : Cond.methodLink "SpillPlannerModel" 248 yX10_liveOf ∈ GW := gw_in (tb7 (i := 127) rfl) rfl
theorem w7_129 : Cond.instanceMethod yX10_liveOf ∈ GW := gw_in (tb7 (i := 129) rfl) rfl
theorem w7_130 : Cond.code yX10_liveOf prog_12_method_24_code 5 (Option.some FieldType.int) ∈ GW := gw_in (tb7 (i := 130) rfl) rfl
theorem w7_131 : Cond.methodLink "SpillPlannerModel" 239 yX10_liveBehind ∈ GW := gw_in (tb7 (i := 131) rfl) rfl
theorem w7_133 : Cond.instanceMethod yX10_liveBehind ∈ GW := gw_in (tb7 (i := 133) rfl) rfl
theorem w7_134 : Cond.code yX10_liveBehind prog_12_method_23_code 4 (Option.some FieldType.int) ∈ GW := gw_in (tb7 (i := 134) rfl) rfl
theorem w7_135 : Cond.methodLink "SpillPlannerModel" 235 yX10_goesTo ∈ GW := gw_in (tb7 (i := 135) rfl) rfl
theorem w7_137 : Cond.instanceMethod yX10_goesTo ∈ GW := gw_in (tb7 (i := 137) rfl) rfl
theorem w7_138 : Cond.code yX10_goesTo prog_12_method_22_code 3 (Option.some FieldType.boolean) ∈ GW := gw_in (tb7 (i := 138) rfl) rfl
theorem w7_139 : Cond.methodLink "SpillPlannerModel" 242 yX10_endUse ∈ GW := gw_in (tb7 (i := 139) rfl) rfl
theorem w7_141 : Cond.instanceMethod yX10_endUse ∈ GW := gw_in (tb7 (i := 141) rfl) rfl
theorem w7_142 : Cond.code yX10_endUse prog_12_method_21_code 2 (Option.some FieldType.int) ∈ GW := gw_in (tb7 (i := 142) rfl) rfl
theorem w7_143 : Cond.methodLink "SpillPlannerModel" 245 yX10_usesOf ∈ GW := gw_in (tb7 (i := 143) rfl) rfl
theorem w7_145 : Cond.instanceMethod yX10_usesOf ∈ GW := gw_in (tb7 (i := 145) rfl) rfl
theorem w7_146 : Cond.code yX10_usesOf prog_12_method_20_code 2 (Option.some FieldType.int) ∈ GW := gw_in (tb7 (i := 146) rfl) rfl
theorem w7_147 : Cond.methodLink "SpillPlannerLaw" 139 yX10_conflicts ∈ GW := gw_in (tb7 (i := 147) rfl) rfl
theorem w7_148 : Cond.instanceMethod yX10_conflicts ∈ GW := gw_in (tb7 (i := 148) rfl) rfl
theorem w7_149 : Cond.selects "SpillPlannerModel" yX10_conflicts yX10_conflicts ∈ GW := gw_in (tb7 (i := 149) rfl) rfl
theorem w7_150 : Cond.code yX10_conflicts prog_12_method_29_code 2 (Option.some FieldType.int) ∈ GW := gw_in (tb7 (i := 150) rfl) rfl
theorem w7_151 : Cond.methodLink "SpillPlannerModel" 262 yX10_layConflicts ∈ GW := gw_in (tb7 (i := 151) rfl) rfl
theorem w7_153 : Cond.instanceMethod yX10_layConflicts ∈ GW := gw_in (tb7 (i := 153) rfl) rfl
theorem w7_154 : Cond.code yX10_layConflicts prog_12_method_28_code 3 (Option.none : Option FieldType) ∈ GW := gw_in (tb7 (i := 154) rfl) rfl
theorem w7_155 : Cond.methodLink "SpillPlannerModel" 258 yX10_conflict ∈ GW := gw_in (tb7 (i := 155) rfl) rfl
theorem w7_157 : Cond.instanceMethod yX10_conflict ∈ GW := gw_in (tb7 (i := 157) rfl) rfl
theorem w7_158 : Cond.code yX10_conflict prog_12_method_27_code 4 (Option.none : Option FieldType) ∈ GW := gw_in (tb7 (i := 158) rfl) rfl
theorem w7_159 : Cond.methodLink "SpillPlannerModel" 255 yX10_has ∈ GW := gw_in (tb7 (i := 159) rfl) rfl
theorem w7_160 : Cond.static yX10_has ∈ GW := gw_in (tb7 (i := 160) rfl) rfl
theorem w7_161 : Cond.code yX10_has prog_12_method_4_code 2 (Option.some FieldType.boolean) ∈ GW := gw_in (tb7 (i := 161) rfl) rfl
theorem w7_162 : Cond.methodLink "SpillPlannerLaw" 143 yX10_pressure ∈ GW := gw_in (tb7 (i := 162) rfl) rfl
theorem w7_163 : Cond.instanceMethod yX10_pressure ∈ GW := gw_in (tb7 (i := 163) rfl) rfl
theorem w7_164 : Cond.selects "SpillPlannerModel" yX10_pressure yX10_pressure ∈ GW := gw_in (tb7 (i := 164) rfl) rfl
theorem w7_165 : Cond.code yX10_pressure prog_12_method_30_code 4 (Option.some FieldType.int) ∈ GW := gw_in (tb7 (i := 165) rfl) rfl
theorem w7_166 : Cond.methodLink "SpillPlannerModel" 265 yX10_bits ∈ GW := gw_in (tb7 (i := 166) rfl) rfl
theorem w7_167 : Cond.static yX10_bits ∈ GW := gw_in (tb7 (i := 167) rfl) rfl
theorem w7_168 : Cond.code yX10_bits prog_12_method_5_code 3 (Option.some FieldType.int) ∈ GW := gw_in (tb7 (i := 168) rfl) rfl
theorem w7_169 : Cond.methodLink "SpillPlannerModel" 268 yJ9_max_7cf53 ∈ GW := gw_in (tb7 (i := 169) rfl) rfl
theorem w7_170 : Cond.methodLink "SpillPlannerLaw" 147 yX10_loops ∈ GW := gw_in (tb7 (i := 170) rfl) rfl
theorem w7_171 : Cond.instanceMethod yX10_loops ∈ GW := gw_in (tb7 (i := 171) rfl) rfl
theorem w7_172 : Cond.selects "SpillPlannerModel" yX10_loops yX10_loops ∈ GW := gw_in (tb7 (i := 172) rfl) rfl
theorem w7_173 : Cond.code yX10_loops prog_12_method_34_code 1 (Option.some FieldType.int) ∈ GW := gw_in (tb7 (i := 173) rfl) rfl
theorem w7_174 : Cond.methodLink "SpillPlannerModel" 276 yX10_layLoops ∈ GW := gw_in (tb7 (i := 174) rfl) rfl
theorem w7_176 : Cond.instanceMethod yX10_layLoops ∈ GW := gw_in (tb7 (i := 176) rfl) rfl
theorem w7_177 : Cond.code yX10_layLoops prog_12_method_32_code 8 (Option.none : Option FieldType) ∈ GW := gw_in (tb7 (i := 177) rfl) rfl
theorem w7_178 : Cond.methodLink "SpillPlannerModel" 273 yX10_reached ∈ GW := gw_in (tb7 (i := 178) rfl) rfl
theorem w7_180 : Cond.instanceMethod yX10_reached ∈ GW := gw_in (tb7 (i := 180) rfl) rfl
theorem w7_181 : Cond.code yX10_reached prog_12_method_31_code 6 (Option.some FieldType.int) ∈ GW := gw_in (tb7 (i := 181) rfl) rfl
theorem w7_182 : Cond.methodLink "SpillPlannerLaw" 150 yX10_loop ∈ GW := gw_in (tb7 (i := 182) rfl) rfl
theorem w7_183 : Cond.instanceMethod yX10_loop ∈ GW := gw_in (tb7 (i := 183) rfl) rfl
theorem w7_184 : Cond.selects "SpillPlannerModel" yX10_loop yX10_loop ∈ GW := gw_in (tb7 (i := 184) rfl) rfl
theorem w7_185 : Cond.code yX10_loop prog_12_method_35_code 5 (Option.some FieldType.int) ∈ GW := gw_in (tb7 (i := 185) rfl) rfl
theorem w7_186 : Cond.methodLink "SpillPlannerModel" 279 yX10_isWithin ∈ GW := gw_in (tb7 (i := 186) rfl) rfl
theorem w7_188 : Cond.instanceMethod yX10_isWithin ∈ GW := gw_in (tb7 (i := 188) rfl) rfl
theorem w7_189 : Cond.code yX10_isWithin prog_12_method_33_code 3 (Option.some FieldType.boolean) ∈ GW := gw_in (tb7 (i := 189) rfl) rfl
theorem w7_190 : Cond.methodLink "SpillPlannerLaw" 154 yX10_cost ∈ GW := gw_in (tb7 (i := 190) rfl) rfl
theorem w7_191 : Cond.instanceMethod yX10_cost ∈ GW := gw_in (tb7 (i := 191) rfl) rfl
theorem w7_192 : Cond.selects "SpillPlannerModel" yX10_cost yX10_cost ∈ GW := gw_in (tb7 (i := 192) rfl) rfl
theorem w7_193 : Cond.code yX10_cost prog_12_method_41_code 3 (Option.some FieldType.int) ∈ GW := gw_in (tb7 (i := 193) rfl) rfl
theorem w7_194 : Cond.methodLink "SpillPlannerModel" 292 yX10_memoryCost ∈ GW := gw_in (tb7 (i := 194) rfl) rfl
theorem w7_196 : Cond.instanceMethod yX10_memoryCost ∈ GW := gw_in (tb7 (i := 196) rfl) rfl
theorem w7_197 : Cond.code yX10_memoryCost prog_12_method_39_code 2 (Option.some FieldType.int) ∈ GW := gw_in (tb7 (i := 197) rfl) rfl
theorem w7_198 : Cond.methodLink "SpillPlannerModel" 282 yX10_all ∈ GW := gw_in (tb7 (i := 198) rfl) rfl
theorem w7_200 : Cond.instanceMethod yX10_all ∈ GW := gw_in (tb7 (i := 200) rfl) rfl
theorem w7_201 : Cond.code yX10_all prog_12_method_38_code 1 (Option.some FieldType.int) ∈ GW := gw_in (tb7 (i := 201) rfl) rfl
theorem w7_202 : Cond.methodLink "SpillPlannerModel" 286 yX10_sumOfUses ∈ GW := gw_in (tb7 (i := 202) rfl) rfl
theorem w7_204 : Cond.instanceMethod yX10_sumOfUses ∈ GW := gw_in (tb7 (i := 204) rfl) rfl
theorem w7_205 : Cond.code yX10_sumOfUses prog_12_method_36_code 6 (Option.some FieldType.int) ∈ GW := gw_in (tb7 (i := 205) rfl) rfl
theorem w7_206 : Cond.methodLink "SpillPlannerModel" 289 yX10_sumOfTargets ∈ GW := gw_in (tb7 (i := 206) rfl) rfl
theorem w7_208 : Cond.instanceMethod yX10_sumOfTargets ∈ GW := gw_in (tb7 (i := 208) rfl) rfl
theorem w7_209 : Cond.code yX10_sumOfTargets prog_12_method_37_code 6 (Option.some FieldType.int) ∈ GW := gw_in (tb7 (i := 209) rfl) rfl
theorem w7_210 : Cond.methodLink "SpillPlannerModel" 295 yX10_constantRow ∈ GW := gw_in (tb7 (i := 210) rfl) rfl
theorem w7_212 : Cond.instanceMethod yX10_constantRow ∈ GW := gw_in (tb7 (i := 212) rfl) rfl
theorem w7_213 : Cond.code yX10_constantRow prog_12_method_40_code 5 (Option.some FieldType.int) ∈ GW := gw_in (tb7 (i := 213) rfl) rfl
theorem w7_214 : Cond.methodLink "SpillPlannerLaw" 157 yX10_plan ∈ GW := gw_in (tb7 (i := 214) rfl) rfl
theorem w7_215 : Cond.instanceMethod yX10_plan ∈ GW := gw_in (tb7 (i := 215) rfl) rfl
theorem w7_216 : Cond.selects "SpillPlannerModel" yX10_plan yX10_plan ∈ GW := gw_in (tb7 (i := 216) rfl) rfl
theorem w7_217 : Cond.code yX10_plan prog_12_method_55_code 4 (Option.some FieldType.int) ∈ GW := gw_in (tb7 (i := 217) rfl) rfl
theorem w7_218 : Cond.methodLink "SpillPlannerModel" 325 yX10_begins ∈ GW := gw_in (tb7 (i := 218) rfl) rfl
theorem w7_220 : Cond.instanceMethod yX10_begins ∈ GW := gw_in (tb7 (i := 220) rfl) rfl
theorem w7_221 : Cond.code yX10_begins prog_12_method_45_code 2 (Option.none : Option FieldType) ∈ GW := gw_in (tb7 (i := 221) rfl) rfl
theorem w7_222 : Cond.methodLink "SpillPlannerModel" 302 yX10_isUsed ∈ GW := gw_in (tb7 (i := 222) rfl) rfl
theorem w7_224 : Cond.instanceMethod yX10_isUsed ∈ GW := gw_in (tb7 (i := 224) rfl) rfl
theorem w7_225 : Cond.code yX10_isUsed prog_12_method_42_code 2 (Option.some FieldType.boolean) ∈ GW := gw_in (tb7 (i := 225) rfl) rfl
theorem w7_226 : Cond.methodLink "SpillPlannerModel" 328 yX10_colours ∈ GW := gw_in (tb7 (i := 226) rfl) rfl
theorem w7_228 : Cond.instanceMethod yX10_colours ∈ GW := gw_in (tb7 (i := 228) rfl) rfl
theorem w7_229 : Cond.code yX10_colours prog_12_method_44_code 3 (Option.some FieldType.int) ∈ GW := gw_in (tb7 (i := 229) rfl) rfl
theorem w7_230 : Cond.methodLink "SpillPlannerModel" 298 yX10_lowest ∈ GW := gw_in (tb7 (i := 230) rfl) rfl
theorem w7_232 : Cond.instanceMethod yX10_lowest ∈ GW := gw_in (tb7 (i := 232) rfl) rfl
theorem w7_233 : Cond.code yX10_lowest prog_12_method_43_code 6 (Option.some FieldType.int) ∈ GW := gw_in (tb7 (i := 233) rfl) rfl
theorem w7_234 : Cond.methodLink "SpillPlannerModel" 331 yX10_putsOut ∈ GW := gw_in (tb7 (i := 234) rfl) rfl
theorem w7_236 : Cond.instanceMethod yX10_putsOut ∈ GW := gw_in (tb7 (i := 236) rfl) rfl
theorem w7_237 : Cond.code yX10_putsOut prog_12_method_47_code 5 (Option.none : Option FieldType) ∈ GW := gw_in (tb7 (i := 237) rfl) rfl
theorem w7_238 : Cond.methodLink "SpillPlannerModel" 305 yX10_costOut ∈ GW := gw_in (tb7 (i := 238) rfl) rfl
theorem w8_0 : Cond.instanceMethod yX10_costOut ∈ GW := gw_in (tb8 (i := 0) rfl) rfl
theorem w8_1 : Cond.code yX10_costOut prog_12_method_46_code 3 (Option.some FieldType.int) ∈ GW := gw_in (tb8 (i := 1) rfl) rfl
theorem w8_2 : Cond.methodLink "SpillPlannerModel" 335 yX10_promotesAll ∈ GW := gw_in (tb8 (i := 2) rfl) rfl
theorem w8_4 : Cond.instanceMethod yX10_promotesAll ∈ GW := gw_in (tb8 (i := 4) rfl) rfl
theorem w8_5 : Cond.code yX10_promotesAll prog_12_method_53_code 5 (Option.none : Option FieldType) ∈ GW := gw_in (tb8 (i := 5) rfl) rfl
theorem w8_6 : Cond.methodLink "SpillPlannerModel" 321 yX10_promotes ∈ GW := gw_in (tb8 (i := 6) rfl) rfl
theorem w8_8 : Cond.instanceMethod yX10_promotes ∈ GW := gw_in (tb8 (i := 8) rfl) rfl
theorem w8_9 : Cond.code yX10_promotes prog_12_method_52_code 5 (Option.none : Option FieldType) ∈ GW := gw_in (tb8 (i := 9) rfl) rfl
theorem w8_10 : Cond.methodLink "SpillPlannerModel" 315 yX10_gain ∈ GW := gw_in (tb8 (i := 10) rfl) rfl
theorem w8_12 : Cond.instanceMethod yX10_gain ∈ GW := gw_in (tb8 (i := 12) rfl) rfl
theorem w8_13 : Cond.code yX10_gain prog_12_method_50_code 7 (Option.some FieldType.int) ∈ GW := gw_in (tb8 (i := 13) rfl) rfl
theorem w8_14 : Cond.methodLink "SpillPlannerModel" 309 yX10_targetsIn ∈ GW := gw_in (tb8 (i := 14) rfl) rfl
theorem w8_16 : Cond.instanceMethod yX10_targetsIn ∈ GW := gw_in (tb8 (i := 16) rfl) rfl
theorem w8_17 : Cond.code yX10_targetsIn prog_12_method_48_code 5 (Option.some FieldType.int) ∈ GW := gw_in (tb8 (i := 17) rfl) rfl
theorem w8_18 : Cond.methodLink "SpillPlannerModel" 318 yX10_colourIn ∈ GW := gw_in (tb8 (i := 18) rfl) rfl
theorem w8_20 : Cond.instanceMethod yX10_colourIn ∈ GW := gw_in (tb8 (i := 20) rfl) rfl
theorem w8_21 : Cond.code yX10_colourIn prog_12_method_51_code 7 (Option.some FieldType.int) ∈ GW := gw_in (tb8 (i := 21) rfl) rfl
theorem w8_22 : Cond.methodLink "SpillPlannerModel" 312 yX10_presentIn ∈ GW := gw_in (tb8 (i := 22) rfl) rfl
theorem w8_24 : Cond.instanceMethod yX10_presentIn ∈ GW := gw_in (tb8 (i := 24) rfl) rfl
theorem w8_25 : Cond.code yX10_presentIn prog_12_method_49_code 5 (Option.some FieldType.int) ∈ GW := gw_in (tb8 (i := 25) rfl) rfl
theorem w8_26 : Cond.methodLink "SpillPlannerModel" 338 yX10_homes ∈ GW := gw_in (tb8 (i := 26) rfl) rfl
theorem w8_28 : Cond.instanceMethod yX10_homes ∈ GW := gw_in (tb8 (i := 28) rfl) rfl
theorem w8_29 : Cond.code yX10_homes prog_12_method_54_code 4 (Option.some FieldType.int) ∈ GW := gw_in (tb8 (i := 29) rfl) rfl
theorem w8_30 : Cond.methodLink "SpillPlannerLaw" 160 yX10_home ∈ GW := gw_in (tb8 (i := 30) rfl) rfl
theorem w8_31 : Cond.instanceMethod yX10_home ∈ GW := gw_in (tb8 (i := 31) rfl) rfl
theorem w8_32 : Cond.selects "SpillPlannerModel" yX10_home yX10_home ∈ GW := gw_in (tb8 (i := 32) rfl) rfl
theorem w8_33 : Cond.code yX10_home prog_12_method_56_code 3 (Option.some FieldType.int) ∈ GW := gw_in (tb8 (i := 33) rfl) rfl
theorem w8_34 : Cond.methodLink "SpillPlannerLaw" 163 yX10_promoted ∈ GW := gw_in (tb8 (i := 34) rfl) rfl
theorem w8_35 : Cond.instanceMethod yX10_promoted ∈ GW := gw_in (tb8 (i := 35) rfl) rfl
theorem w8_36 : Cond.selects "SpillPlannerModel" yX10_promoted yX10_promoted ∈ GW := gw_in (tb8 (i := 36) rfl) rfl
theorem w8_37 : Cond.code yX10_promoted prog_12_method_57_code 4 (Option.some FieldType.int) ∈ GW := gw_in (tb8 (i := 37) rfl) rfl
theorem w8_38 : Cond.methodLink "SpillPlannerLaw" 166 yX10_planned ∈ GW := gw_in (tb8 (i := 38) rfl) rfl
theorem w8_39 : Cond.instanceMethod yX10_planned ∈ GW := gw_in (tb8 (i := 39) rfl) rfl
theorem w8_40 : Cond.selects "SpillPlannerModel" yX10_planned yX10_planned ∈ GW := gw_in (tb8 (i := 40) rfl) rfl
theorem w8_41 : Cond.code yX10_planned prog_12_method_60_code 2 (Option.some FieldType.int) ∈ GW := gw_in (tb8 (i := 41) rfl) rfl
theorem w8_42 : Cond.methodLink "SpillPlannerModel" 341 yX10_promotions ∈ GW := gw_in (tb8 (i := 42) rfl) rfl
theorem w8_44 : Cond.instanceMethod yX10_promotions ∈ GW := gw_in (tb8 (i := 44) rfl) rfl
theorem w8_45 : Cond.code yX10_promotions prog_12_method_58_code 3 (Option.some FieldType.int) ∈ GW := gw_in (tb8 (i := 45) rfl) rfl
theorem w8_46 : Cond.methodLink "SpillPlannerModel" 344 yX10_costs ∈ GW := gw_in (tb8 (i := 46) rfl) rfl
theorem w8_48 : Cond.instanceMethod yX10_costs ∈ GW := gw_in (tb8 (i := 48) rfl) rfl
theorem w8_49 : Cond.code yX10_costs prog_12_method_59_code 3 (Option.some FieldType.int) ∈ GW := gw_in (tb8 (i := 49) rfl) rfl
theorem w8_50 : Cond.methodLink "SpillPlannerLaw" 170 yX10_enough ∈ GW := gw_in (tb8 (i := 50) rfl) rfl
theorem w8_51 : Cond.instanceMethod yX10_enough ∈ GW := gw_in (tb8 (i := 51) rfl) rfl
theorem w8_52 : Cond.selects "SpillPlannerModel" yX10_enough yX10_enough ∈ GW := gw_in (tb8 (i := 52) rfl) rfl
theorem w8_53 : Cond.code yX10_enough prog_12_method_61_code 3 (Option.some FieldType.int) ∈ GW := gw_in (tb8 (i := 53) rfl) rfl
theorem w8_54 : Cond.methodLink "SpillPlannerLaw" 173 yX10_run ∈ GW := gw_in (tb8 (i := 54) rfl) rfl
theorem w8_55 : Cond.instanceMethod yX10_run ∈ GW := gw_in (tb8 (i := 55) rfl) rfl
theorem w8_56 : Cond.selects "SpillPlannerModel" yX10_run yX10_run ∈ GW := gw_in (tb8 (i := 56) rfl) rfl
theorem w8_57 : Cond.code yX10_run prog_12_method_72_code 2 (Option.some FieldType.int) ∈ GW := gw_in (tb8 (i := 57) rfl) rfl
theorem w8_58 : Cond.methodLink "SpillPlannerModel" 374 yX10_outcome ∈ GW := gw_in (tb8 (i := 58) rfl) rfl
theorem w8_60 : Cond.instanceMethod yX10_outcome ∈ GW := gw_in (tb8 (i := 60) rfl) rfl
theorem w8_61 : Cond.code yX10_outcome prog_12_method_71_code 4 (Option.some FieldType.int) ∈ GW := gw_in (tb8 (i := 61) rfl) rfl
theorem w8_62 : Cond.methodLink "SpillPlannerModel" 371 yX10_executes ∈ GW := gw_in (tb8 (i := 62) rfl) rfl
theorem w8_64 : Cond.instanceMethod yX10_executes ∈ GW := gw_in (tb8 (i := 64) rfl) rfl
theorem w8_65 : Cond.code yX10_executes prog_12_method_70_code 4 (Option.some FieldType.boolean) ∈ GW := gw_in (tb8 (i := 65) rfl) rfl
theorem w8_66 : Cond.methodLink "SpillPlannerModel" 365 yX10_enters ∈ GW := gw_in (tb8 (i := 66) rfl) rfl
theorem w8_68 : Cond.instanceMethod yX10_enters ∈ GW := gw_in (tb8 (i := 68) rfl) rfl
theorem w8_69 : Cond.code yX10_enters prog_12_method_69_code 2 (Option.none : Option FieldType) ∈ GW := gw_in (tb8 (i := 69) rfl) rfl
theorem w8_70 : Cond.methodLink "SpillPlannerModel" 362 yX10_goesInto ∈ GW := gw_in (tb8 (i := 70) rfl) rfl
theorem w8_72 : Cond.instanceMethod yX10_goesInto ∈ GW := gw_in (tb8 (i := 72) rfl) rfl
theorem w8_73 : Cond.code yX10_goesInto prog_12_method_68_code 6 (Option.none : Option FieldType) ∈ GW := gw_in (tb8 (i := 73) rfl) rfl
theorem w8_74 : Cond.methodLink "SpillPlannerModel" 368 yX10_does ∈ GW := gw_in (tb8 (i := 74) rfl) rfl
theorem w8_76 : Cond.instanceMethod yX10_does ∈ GW := gw_in (tb8 (i := 76) rfl) rfl
theorem w8_77 : Cond.code yX10_does prog_12_method_67_code 4 (Option.none : Option FieldType) ∈ GW := gw_in (tb8 (i := 77) rfl) rfl
theorem w8_78 : Cond.methodLink "SpillPlannerModel" 356 yX10_puts ∈ GW := gw_in (tb8 (i := 78) rfl) rfl
theorem w8_80 : Cond.instanceMethod yX10_puts ∈ GW := gw_in (tb8 (i := 80) rfl) rfl
theorem w8_81 : Cond.code yX10_puts prog_12_method_66_code 5 (Option.none : Option FieldType) ∈ GW := gw_in (tb8 (i := 81) rfl) rfl
theorem w8_82 : Cond.methodLink "SpillPlannerModel" 350 yX10_colourOf ∈ GW := gw_in (tb8 (i := 82) rfl) rfl
theorem w8_84 : Cond.instanceMethod yX10_colourOf ∈ GW := gw_in (tb8 (i := 84) rfl) rfl
theorem w8_85 : Cond.code yX10_colourOf prog_12_method_62_code 4 (Option.some FieldType.int) ∈ GW := gw_in (tb8 (i := 85) rfl) rfl
theorem w8_86 : Cond.methodLink "SpillPlannerModel" 353 yX10_holds ∈ GW := gw_in (tb8 (i := 86) rfl) rfl
theorem w8_88 : Cond.instanceMethod yX10_holds ∈ GW := gw_in (tb8 (i := 88) rfl) rfl
theorem w8_89 : Cond.code yX10_holds prog_12_method_64_code 4 (Option.some FieldType.boolean) ∈ GW := gw_in (tb8 (i := 89) rfl) rfl
theorem w8_90 : Cond.methodLink "SpillPlannerModel" 347 yX10_held ∈ GW := gw_in (tb8 (i := 90) rfl) rfl
theorem w8_92 : Cond.instanceMethod yX10_held ∈ GW := gw_in (tb8 (i := 92) rfl) rfl
theorem w8_93 : Cond.code yX10_held prog_12_method_63_code 2 (Option.some FieldType.int) ∈ GW := gw_in (tb8 (i := 93) rfl) rfl
theorem w8_94 : Cond.methodLink "SpillPlannerModel" 359 yX10_got ∈ GW := gw_in (tb8 (i := 94) rfl) rfl
theorem w8_96 : Cond.instanceMethod yX10_got ∈ GW := gw_in (tb8 (i := 96) rfl) rfl
theorem w8_97 : Cond.code yX10_got prog_12_method_65_code 3 (Option.some FieldType.int) ∈ GW := gw_in (tb8 (i := 97) rfl) rfl
theorem w8_98 : Cond.methodLink "SpillPlannerLaw" 176 yX10_runPlanned ∈ GW := gw_in (tb8 (i := 98) rfl) rfl
theorem w8_99 : Cond.instanceMethod yX10_runPlanned ∈ GW := gw_in (tb8 (i := 99) rfl) rfl
theorem w8_100 : Cond.selects "SpillPlannerModel" yX10_runPlanned yX10_runPlanned ∈ GW := gw_in (tb8 (i := 100) rfl) rfl
theorem w8_101 : Cond.code yX10_runPlanned prog_12_method_73_code 2 (Option.some FieldType.int) ∈ GW := gw_in (tb8 (i := 101) rfl) rfl
theorem w8_102 : Cond.methodLink "SpillPlannerLaw" 179 yX10_executed ∈ GW := gw_in (tb8 (i := 102) rfl) rfl
theorem w8_103 : Cond.instanceMethod yX10_executed ∈ GW := gw_in (tb8 (i := 103) rfl) rfl
theorem w8_104 : Cond.selects "SpillPlannerModel" yX10_executed yX10_executed ∈ GW := gw_in (tb8 (i := 104) rfl) rfl
theorem w8_105 : Cond.code yX10_executed prog_12_method_74_code 2 (Option.some FieldType.int) ∈ GW := gw_in (tb8 (i := 105) rfl) rfl
theorem w8_106 : Cond.methodLink "SpillPlannerLaw" 182 yX10_visits ∈ GW := gw_in (tb8 (i := 106) rfl) rfl
theorem w8_107 : Cond.instanceMethod yX10_visits ∈ GW := gw_in (tb8 (i := 107) rfl) rfl
theorem w8_108 : Cond.selects "SpillPlannerModel" yX10_visits yX10_visits ∈ GW := gw_in (tb8 (i := 108) rfl) rfl
theorem w8_109 : Cond.code yX10_visits prog_12_method_75_code 2 (Option.some FieldType.int) ∈ GW := gw_in (tb8 (i := 109) rfl) rfl
theorem w8_110 : Cond.methodLink "SpillPlannerLaw" 186 yX10_profile ∈ GW := gw_in (tb8 (i := 110) rfl) rfl
theorem w8_111 : Cond.instanceMethod yX10_profile ∈ GW := gw_in (tb8 (i := 111) rfl) rfl
theorem w8_112 : Cond.selects "SpillPlannerModel" yX10_profile yX10_profile ∈ GW := gw_in (tb8 (i := 112) rfl) rfl
theorem w8_113 : Cond.code yX10_profile prog_12_method_76_code 4 (Option.some FieldType.int) ∈ GW := gw_in (tb8 (i := 113) rfl) rfl
theorem w8_114 : Cond.methodLink "SpillPlannerLaw" 190 yX10_feed ∈ GW := gw_in (tb8 (i := 114) rfl) rfl
theorem w8_115 : Cond.instanceMethod yX10_feed ∈ GW := gw_in (tb8 (i := 115) rfl) rfl
theorem w8_116 : Cond.selects "SpillPlannerModel" yX10_feed yX10_feed ∈ GW := gw_in (tb8 (i := 116) rfl) rfl
theorem w8_117 : Cond.code yX10_feed prog_12_method_77_code 2 (Option.some FieldType.int) ∈ GW := gw_in (tb8 (i := 117) rfl) rfl
theorem w8_118 : Cond.methodLink "SpillPlannerLaw" 193 yX10_read ∈ GW := gw_in (tb8 (i := 118) rfl) rfl
theorem w8_119 : Cond.instanceMethod yX10_read ∈ GW := gw_in (tb8 (i := 119) rfl) rfl
theorem w8_120 : Cond.selects "SpillPlannerModel" yX10_read yX10_read ∈ GW := gw_in (tb8 (i := 120) rfl) rfl
theorem w8_121 : Cond.code yX10_read prog_12_method_90_code 4 (Option.some FieldType.int) ∈ GW := gw_in (tb8 (i := 121) rfl) rfl
theorem w8_122 : Cond.methodLink "SpillPlannerModel" 410 yX10_readOne ∈ GW := gw_in (tb8 (i := 122) rfl) rfl
theorem w8_124 : Cond.instanceMethod yX10_readOne ∈ GW := gw_in (tb8 (i := 124) rfl) rfl
theorem w8_125 : Cond.code yX10_readOne prog_12_method_89_code 1 (Option.some FieldType.boolean) ∈ GW := gw_in (tb8 (i := 125) rfl) rfl
theorem w8_126 : Cond.methodLink "SpillPlannerModel" 377 yX10_sign ∈ GW := gw_in (tb8 (i := 126) rfl) rfl
theorem w8_128 : Cond.instanceMethod yX10_sign ∈ GW := gw_in (tb8 (i := 128) rfl) rfl
theorem w8_129 : Cond.code yX10_sign prog_12_method_78_code 1 (Option.some FieldType.int) ∈ GW := gw_in (tb8 (i := 129) rfl) rfl
theorem w8_130 : Cond.methodLink "SpillPlannerModel" 395 yX10_isNext ∈ GW := gw_in (tb8 (i := 130) rfl) rfl
theorem w8_132 : Cond.instanceMethod yX10_isNext ∈ GW := gw_in (tb8 (i := 132) rfl) rfl
theorem w8_133 : Cond.code yX10_isNext prog_12_method_85_code 2 (Option.some FieldType.boolean) ∈ GW := gw_in (tb8 (i := 133) rfl) rfl
theorem w8_134 : Cond.methodLink "SpillPlannerModel" 398 yX10_readGo ∈ GW := gw_in (tb8 (i := 134) rfl) rfl
theorem w8_136 : Cond.instanceMethod yX10_readGo ∈ GW := gw_in (tb8 (i := 136) rfl) rfl
theorem w8_137 : Cond.code yX10_readGo prog_12_method_86_code 2 (Option.none : Option FieldType) ∈ GW := gw_in (tb8 (i := 137) rfl) rfl
theorem w8_138 : Cond.methodLink "SpillPlannerModel" 389 yX10_blank ∈ GW := gw_in (tb8 (i := 138) rfl) rfl
theorem w8_140 : Cond.instanceMethod yX10_blank ∈ GW := gw_in (tb8 (i := 140) rfl) rfl
theorem w8_141 : Cond.code yX10_blank prog_12_method_82_code 1 (Option.some FieldType.int) ∈ GW := gw_in (tb8 (i := 141) rfl) rfl
theorem w8_142 : Cond.methodLink "SpillPlannerModel" 380 yX10_takes ∈ GW := gw_in (tb8 (i := 142) rfl) rfl
theorem w8_144 : Cond.instanceMethod yX10_takes ∈ GW := gw_in (tb8 (i := 144) rfl) rfl
theorem w8_145 : Cond.code yX10_takes prog_12_method_79_code 4 (Option.some FieldType.int) ∈ GW := gw_in (tb8 (i := 145) rfl) rfl
theorem w8_146 : Cond.methodLink "SpillPlannerModel" 392 yX10_blockDigit ∈ GW := gw_in (tb8 (i := 146) rfl) rfl
theorem w8_148 : Cond.instanceMethod yX10_blockDigit ∈ GW := gw_in (tb8 (i := 148) rfl) rfl
theorem w8_149 : Cond.code yX10_blockDigit prog_12_method_81_code 1 (Option.some FieldType.int) ∈ GW := gw_in (tb8 (i := 149) rfl) rfl
theorem w8_150 : Cond.methodLink "SpillPlannerModel" 401 yX10_readIf ∈ GW := gw_in (tb8 (i := 150) rfl) rfl
theorem w8_152 : Cond.instanceMethod yX10_readIf ∈ GW := gw_in (tb8 (i := 152) rfl) rfl
theorem w8_153 : Cond.code yX10_readIf prog_12_method_87_code 2 (Option.none : Option FieldType) ∈ GW := gw_in (tb8 (i := 153) rfl) rfl
theorem w8_154 : Cond.methodLink "SpillPlannerModel" 386 yX10_variable ∈ GW := gw_in (tb8 (i := 154) rfl) rfl
theorem w8_156 : Cond.instanceMethod yX10_variable ∈ GW := gw_in (tb8 (i := 156) rfl) rfl
theorem w8_157 : Cond.code yX10_variable prog_12_method_80_code 1 (Option.some FieldType.int) ∈ GW := gw_in (tb8 (i := 157) rfl) rfl
theorem w8_158 : Cond.methodLink "SpillPlannerModel" 404 yX10_readStop ∈ GW := gw_in (tb8 (i := 158) rfl) rfl
theorem w8_160 : Cond.instanceMethod yX10_readStop ∈ GW := gw_in (tb8 (i := 160) rfl) rfl
theorem w8_161 : Cond.code yX10_readStop prog_12_method_88_code 2 (Option.none : Option FieldType) ∈ GW := gw_in (tb8 (i := 161) rfl) rfl
theorem w8_162 : Cond.methodLink "SpillPlannerModel" 407 yX10_readRow ∈ GW := gw_in (tb8 (i := 162) rfl) rfl
theorem w8_164 : Cond.instanceMethod yX10_readRow ∈ GW := gw_in (tb8 (i := 164) rfl) rfl
theorem w8_165 : Cond.code yX10_readRow prog_12_method_84_code 4 (Option.none : Option FieldType) ∈ GW := gw_in (tb8 (i := 165) rfl) rfl
theorem w8_166 : Cond.methodLink "SpillPlannerModel" 383 yX10_readNumber ∈ GW := gw_in (tb8 (i := 166) rfl) rfl
theorem w8_168 : Cond.instanceMethod yX10_readNumber ∈ GW := gw_in (tb8 (i := 168) rfl) rfl
theorem w8_169 : Cond.code yX10_readNumber prog_12_method_83_code 4 (Option.none : Option FieldType) ∈ GW := gw_in (tb8 (i := 169) rfl) rfl
theorem w8_170 : Cond.methodLink "SpillPlannerLaw" 197 yX10_saveSnapshot ∈ GW := gw_in (tb8 (i := 170) rfl) rfl
theorem w8_171 : Cond.instanceMethod yX10_saveSnapshot ∈ GW := gw_in (tb8 (i := 171) rfl) rfl
theorem w8_172 : Cond.selects "SpillPlannerModel" yX10_saveSnapshot yX10_saveSnapshot ∈ GW := gw_in (tb8 (i := 172) rfl) rfl
theorem w8_173 : Cond.code yX10_saveSnapshot prog_12_method_92_code 1 (Option.some FieldType.int) ∈ GW := gw_in (tb8 (i := 173) rfl) rfl
theorem w8_174 : Cond.methodLink "SpillPlannerModel" 414 yX10_copies ∈ GW := gw_in (tb8 (i := 174) rfl) rfl
theorem w8_175 : Cond.static yX10_copies ∈ GW := gw_in (tb8 (i := 175) rfl) rfl
theorem w8_176 : Cond.code yX10_copies prog_12_method_91_code 3 (Option.none : Option FieldType) ∈ GW := gw_in (tb8 (i := 176) rfl) rfl
theorem w8_177 : Cond.methodLink "SpillPlannerLaw" 201 yX10_restoreSnapshot ∈ GW := gw_in (tb8 (i := 177) rfl) rfl
theorem w8_178 : Cond.instanceMethod yX10_restoreSnapshot ∈ GW := gw_in (tb8 (i := 178) rfl) rfl
theorem w8_179 : Cond.selects "SpillPlannerModel" yX10_restoreSnapshot yX10_restoreSnapshot ∈ GW := gw_in (tb8 (i := 179) rfl) rfl
theorem w8_180 : Cond.code yX10_restoreSnapshot prog_12_method_93_code 1 (Option.some FieldType.int) ∈ GW := gw_in (tb8 (i := 180) rfl) rfl
theorem w8_181 : Cond.arrayClass FieldType.long ∈ GW := gw_in (tb8 (i := 181) rfl) rfl
theorem w8_182 : Cond.sameMethod "java/lang/Throwable" "java/lang/Throwable" "fillInStackTrace" "(I)Ljava/lang/Throwable;" ∈ GW := gw_in (tb8 (i := 182) rfl) rfl
theorem w8_183 : Cond.sameMethod "SpillPlanner$Machine" "SpillPlanner$Machine" "reset" "()V" ∈ GW := gw_in (tb8 (i := 183) rfl) rfl
theorem w8_184 : Cond.sameMethod "SpillPlanner$Machine" "SpillPlanner$Machine" "moveTo" "(II)V" ∈ GW := gw_in (tb8 (i := 184) rfl) rfl
theorem w8_185 : Cond.sameMethod "SpillPlanner$Machine" "SpillPlanner$Machine" "valueOf" "(LSpillPlanner$Block;I)I" ∈ GW := gw_in (tb8 (i := 185) rfl) rfl
theorem w8_186 : Cond.sameMethod "SpillPlanner$Machine" "SpillPlanner$Machine" "nextBlock" "(LSpillPlanner$Block;)I" ∈ GW := gw_in (tb8 (i := 186) rfl) rfl
theorem w8_187 : Cond.castable "java/lang/ArrayIndexOutOfBoundsException" "java/lang/IndexOutOfBoundsException" ∈ NW := List.mem_filter.mpr ⟨tb8 (i := 187) rfl, rfl⟩
theorem w8_188 : Cond.castable "SpillPlanner" "java/lang/Object" ∈ NW := List.mem_filter.mpr ⟨tb8 (i := 188) rfl, rfl⟩
theorem w8_189 : Cond.castable "SpillPlanner$Program" "java/lang/Object" ∈ NW := List.mem_filter.mpr ⟨tb8 (i := 189) rfl, rfl⟩
theorem w8_190 : Cond.castable "SpillPlanner$Block" "java/lang/Object" ∈ NW := List.mem_filter.mpr ⟨tb8 (i := 190) rfl, rfl⟩
theorem w8_191 : Cond.castable "SpillPlanner$Facts" "java/lang/Object" ∈ NW := List.mem_filter.mpr ⟨tb8 (i := 191) rfl, rfl⟩
theorem w8_192 : Cond.castable "SpillPlanner$LoopFinder" "java/lang/Object" ∈ NW := List.mem_filter.mpr ⟨tb8 (i := 192) rfl, rfl⟩
theorem w8_193 : Cond.castable "SpillPlanner$Plan" "java/lang/Object" ∈ NW := List.mem_filter.mpr ⟨tb8 (i := 193) rfl, rfl⟩
theorem w8_194 : Cond.castable "SpillPlanner$PlainMachine" "java/lang/Object" ∈ NW := List.mem_filter.mpr ⟨tb8 (i := 194) rfl, rfl⟩
theorem w8_195 : Cond.castable "SpillPlanner$PlanMachine" "java/lang/Object" ∈ NW := List.mem_filter.mpr ⟨tb8 (i := 195) rfl, rfl⟩
theorem w8_196 : Cond.castable "SpillPlanner$Reader" "java/lang/Object" ∈ NW := List.mem_filter.mpr ⟨tb8 (i := 196) rfl, rfl⟩
theorem w8_197 : Cond.castable "SpillPlannerModel" "java/lang/Object" ∈ NW := List.mem_filter.mpr ⟨tb8 (i := 197) rfl, rfl⟩
theorem w8_198 : Cond.castable "java/lang/IllegalArgumentException" "java/lang/Object" ∈ NW := List.mem_filter.mpr ⟨tb8 (i := 198) rfl, rfl⟩
theorem w8_199 : Cond.castable "java/lang/ArrayIndexOutOfBoundsException" "java/lang/Object" ∈ NW := List.mem_filter.mpr ⟨tb8 (i := 199) rfl, rfl⟩
theorem w8_200 : Cond.castable "java/lang/IndexOutOfBoundsException" "java/lang/Object" ∈ NW := List.mem_filter.mpr ⟨tb8 (i := 200) rfl, rfl⟩
theorem w8_201 : Cond.castable "java/lang/IllegalStateException" "java/lang/Object" ∈ NW := List.mem_filter.mpr ⟨tb8 (i := 201) rfl, rfl⟩
theorem w8_202 : Cond.castable "java/util/NoSuchElementException" "java/lang/Object" ∈ NW := List.mem_filter.mpr ⟨tb8 (i := 202) rfl, rfl⟩
theorem w8_203 : Cond.castable "java/lang/UnsupportedOperationException" "java/lang/Object" ∈ NW := List.mem_filter.mpr ⟨tb8 (i := 203) rfl, rfl⟩
theorem w8_204 : Cond.castable "java/lang/ArithmeticException" "java/lang/Object" ∈ NW := List.mem_filter.mpr ⟨tb8 (i := 204) rfl, rfl⟩
theorem w8_205 : Cond.castable "java/lang/Throwable" "java/lang/Object" ∈ NW := List.mem_filter.mpr ⟨tb8 (i := 205) rfl, rfl⟩
theorem w8_206 : Cond.castable "java/lang/String" "java/lang/Object" ∈ NW := List.mem_filter.mpr ⟨tb8 (i := 206) rfl, rfl⟩
theorem w8_207 : Cond.fieldLink "java/lang/String" 9 "java/lang/String" "value" "[B" ∈ GW := gw_in (tb8 (i := 207) rfl) rfl
theorem w8_208 : Cond.fieldLink "java/lang/String" 15 "java/lang/String" "coder" "B" ∈ GW := gw_in (tb8 (i := 208) rfl) rfl
theorem wp_0 : Cond.selects RX9 yX9_analyse yX9_analyse ∈ GW := gw_pr (i := 0) (q := (yX9_analyse, 14)) rfl
theorem wp_1 : Cond.selects RX1 yX1_findLive yX1_findLive ∈ GW := gw_pr (i := 1) (q := (yX1_findLive, 7)) rfl
theorem wp_2 : Cond.selects RX1 yX1_findLiveIn yX1_findLiveIn ∈ GW := gw_pr (i := 2) (q := (yX1_findLiveIn, 7)) rfl
theorem wp_3 : Cond.selects RX1 yX1_countUses yX1_countUses ∈ GW := gw_pr (i := 3) (q := (yX1_countUses, 7)) rfl
theorem wp_4 : Cond.selects RX1 yX1_countSet yX1_countSet ∈ GW := gw_pr (i := 4) (q := (yX1_countSet, 7)) rfl
theorem wp_5 : Cond.selects RX1 yX1_findRivals yX1_findRivals ∈ GW := gw_pr (i := 5) (q := (yX1_findRivals, 7)) rfl
theorem wp_6 : Cond.selects RX1 yX1_addRivals yX1_addRivals ∈ GW := gw_pr (i := 6) (q := (yX1_addRivals, 7)) rfl
theorem wp_7 : Cond.selects RX2 yX2_reachableWithout yX2_reachableWithout ∈ GW := gw_pr (i := 7) (q := (yX2_reachableWithout, 4)) rfl
theorem wp_8 : Cond.selects RX2 yX2_predecessors yX2_predecessors ∈ GW := gw_pr (i := 8) (q := (yX2_predecessors, 4)) rfl
theorem wp_9 : Cond.selects RX2 yX2_loopBlocks yX2_loopBlocks ∈ GW := gw_pr (i := 9) (q := (yX2_loopBlocks, 4)) rfl
theorem wp_10 : Cond.selects RX9 yX9_programChanged yX9_programChanged ∈ GW := gw_pr (i := 10) (q := (yX9_programChanged, 14)) rfl
theorem wp_12 : Cond.selects RX9 yX9_requireBlock yX9_requireBlock ∈ GW := gw_pr (i := 12) (q := (yX9_requireBlock, 14)) rfl
theorem wp_13 : Cond.selects RX9 yX9_requireVariable yX9_requireVariable ∈ GW := gw_pr (i := 13) (q := (yX9_requireVariable, 14)) rfl
theorem wp_14 : Cond.selects RX9 yX9_requireLoop yX9_requireLoop ∈ GW := gw_pr (i := 14) (q := (yX9_requireLoop, 14)) rfl
theorem wp_15 : Cond.selects RX5 yX5_placeUsedInRegisters yX5_placeUsedInRegisters ∈ GW := gw_pr (i := 15) (q := (yX5_placeUsedInRegisters, 13)) rfl
theorem wp_16 : Cond.selects RX5 yX5_takeOutOne yX5_takeOutOne ∈ GW := gw_pr (i := 16) (q := (yX5_takeOutOne, 13)) rfl
theorem wp_17 : Cond.selects RX5 yX5_firstOverRegisters yX5_firstOverRegisters ∈ GW := gw_pr (i := 17) (q := (yX5_firstOverRegisters, 13)) rfl
theorem wp_18 : Cond.selects RX5 yX5_outsideCost yX5_outsideCost ∈ GW := gw_pr (i := 18) (q := (yX5_outsideCost, 13)) rfl
theorem wp_19 : Cond.selects RX5 yX5_wouldBeRecomputed yX5_wouldBeRecomputed ∈ GW := gw_pr (i := 19) (q := (yX5_wouldBeRecomputed, 13)) rfl
theorem wp_20 : Cond.selects RX5 yX5_surveyLoops yX5_surveyLoops ∈ GW := gw_pr (i := 20) (q := (yX5_surveyLoops, 13)) rfl
theorem wp_21 : Cond.selects RX5 yX5_promoteAll yX5_promoteAll ∈ GW := gw_pr (i := 21) (q := (yX5_promoteAll, 13)) rfl
theorem wp_22 : Cond.selects RX5 yX5_nextLoop yX5_nextLoop ∈ GW := gw_pr (i := 22) (q := (yX5_nextLoop, 13)) rfl
theorem wp_23 : Cond.selects RX5 yX5_promoteIfGainful yX5_promoteIfGainful ∈ GW := gw_pr (i := 23) (q := (yX5_promoteIfGainful, 13)) rfl
theorem wp_24 : Cond.selects RX5 yX5_gainOf yX5_gainOf ∈ GW := gw_pr (i := 24) (q := (yX5_gainOf, 13)) rfl
theorem wp_25 : Cond.selects RX5 yX5_loadsOnEdge yX5_loadsOnEdge ∈ GW := gw_pr (i := 25) (q := (yX5_loadsOnEdge, 13)) rfl
theorem wp_26 : Cond.selects RX5 yX5_isLiveOutside yX5_isLiveOutside ∈ GW := gw_pr (i := 26) (q := (yX5_isLiveOutside, 13)) rfl
theorem wp_27 : Cond.selects RX5 yX5_isPromotedAround yX5_isPromotedAround ∈ GW := gw_pr (i := 27) (q := (yX5_isPromotedAround, 13)) rfl
theorem wp_28 : Cond.selects RX5 yX5_coloursTakenIn yX5_coloursTakenIn ∈ GW := gw_pr (i := 28) (q := (yX5_coloursTakenIn, 13)) rfl
theorem wp_29 : Cond.selects RX5 yX5_coloursOf yX5_coloursOf ∈ GW := gw_pr (i := 29) (q := (yX5_coloursOf, 13)) rfl
theorem wp_30 : Cond.selects RX9 yX9_requirePlan yX9_requirePlan ∈ GW := gw_pr (i := 30) (q := (yX9_requirePlan, 14)) rfl
theorem wp_31 : Cond.selects RX9 yX9_resultOf yX9_resultOf ∈ GW := gw_pr (i := 31) (q := (yX9_resultOf, 14)) rfl
theorem wp_32 : Cond.selects RX6 yX6_placeInitial yX6_placeInitial ∈ GW := gw_pr (i := 32) (q := (yX6_placeInitial, 14)) rfl
theorem wp_33 : Cond.selects RX6 yX6_storePromoted yX6_storePromoted ∈ GW := gw_pr (i := 33) (q := (yX6_storePromoted, 14)) rfl
theorem wp_34 : Cond.selects RX6 yX6_loadPromoted yX6_loadPromoted ∈ GW := gw_pr (i := 34) (q := (yX6_loadPromoted, 14)) rfl
theorem wp_35 : Cond.selects RX6 yX6_fetchFromMemory yX6_fetchFromMemory ∈ GW := gw_pr (i := 35) (q := (yX6_fetchFromMemory, 14)) rfl
theorem wp_36 : Cond.selects RX6 yX6_scratchFor yX6_scratchFor ∈ GW := gw_pr (i := 36) (q := (yX6_scratchFor, 14)) rfl
theorem wp_37 : Cond.selects RX6 yX6_putInMemory yX6_putInMemory ∈ GW := gw_pr (i := 37) (q := (yX6_putInMemory, 14)) rfl
theorem wp_38 : Cond.selects RX8 yX8_startsInstruction yX8_startsInstruction ∈ GW := gw_pr (i := 38) (q := (yX8_startsInstruction, 5)) rfl
theorem wp_39 : Cond.selects RX8 yX8_signAt yX8_signAt ∈ GW := gw_pr (i := 39) (q := (yX8_signAt, 5)) rfl
theorem wp_40 : Cond.selects RX8 yX8_parseInstruction yX8_parseInstruction ∈ GW := gw_pr (i := 40) (q := (yX8_parseInstruction, 5)) rfl
theorem wp_41 : Cond.selects RX8 yX8_takeVariable yX8_takeVariable ∈ GW := gw_pr (i := 41) (q := (yX8_takeVariable, 5)) rfl
theorem wp_42 : Cond.selects RX8 yX8_take yX8_take ∈ GW := gw_pr (i := 42) (q := (yX8_take, 5)) rfl
theorem wp_43 : Cond.selects RX8 yX8_parseConstant yX8_parseConstant ∈ GW := gw_pr (i := 43) (q := (yX8_parseConstant, 5)) rfl
theorem wp_44 : Cond.selects RX8 yX8_parseVariables yX8_parseVariables ∈ GW := gw_pr (i := 44) (q := (yX8_parseVariables, 5)) rfl
theorem wp_45 : Cond.selects RX8 yX8_takeOperator yX8_takeOperator ∈ GW := gw_pr (i := 45) (q := (yX8_takeOperator, 5)) rfl
theorem wp_46 : Cond.selects RX8 yX8_parseEnding yX8_parseEnding ∈ GW := gw_pr (i := 46) (q := (yX8_parseEnding, 5)) rfl
theorem wp_47 : Cond.selects RX8 yX8_takeWord yX8_takeWord ∈ GW := gw_pr (i := 47) (q := (yX8_takeWord, 5)) rfl
theorem wp_48 : Cond.selects RX8 yX8_takeBlock yX8_takeBlock ∈ GW := gw_pr (i := 48) (q := (yX8_takeBlock, 5)) rfl
theorem wp_49 : Cond.selects RX8 yX8_finishDraft yX8_finishDraft ∈ GW := gw_pr (i := 49) (q := (yX8_finishDraft, 5)) rfl
theorem wp_50 : Cond.selects RX8 yX8_parseBranch yX8_parseBranch ∈ GW := gw_pr (i := 50) (q := (yX8_parseBranch, 5)) rfl
theorem wp_51 : Cond.selects RX10 yX10_empties yX10_empties ∈ GW := gw_pr (i := 51) (q := (yX10_empties, 66)) rfl
theorem wp_52 : Cond.selects RX10 yX10_fails yX10_fails ∈ GW := gw_pr (i := 52) (q := (yX10_fails, 66)) rfl
theorem wp_53 : Cond.selects RX10 yX10_isBlock yX10_isBlock ∈ GW := gw_pr (i := 53) (q := (yX10_isBlock, 66)) rfl
theorem wp_54 : Cond.selects RX10 yX10_lays yX10_lays ∈ GW := gw_pr (i := 54) (q := (yX10_lays, 66)) rfl
theorem wp_55 : Cond.selects RX10 yX10_ends yX10_ends ∈ GW := gw_pr (i := 55) (q := (yX10_ends, 66)) rfl
theorem wp_56 : Cond.selects RX10 yX10_layLive yX10_layLive ∈ GW := gw_pr (i := 56) (q := (yX10_layLive, 66)) rfl
theorem wp_57 : Cond.selects RX10 yX10_liveOf yX10_liveOf ∈ GW := gw_pr (i := 57) (q := (yX10_liveOf, 66)) rfl
theorem wp_58 : Cond.selects RX10 yX10_liveBehind yX10_liveBehind ∈ GW := gw_pr (i := 58) (q := (yX10_liveBehind, 66)) rfl
theorem wp_59 : Cond.selects RX10 yX10_goesTo yX10_goesTo ∈ GW := gw_pr (i := 59) (q := (yX10_goesTo, 66)) rfl
theorem wp_60 : Cond.selects RX10 yX10_endUse yX10_endUse ∈ GW := gw_pr (i := 60) (q := (yX10_endUse, 66)) rfl
theorem wp_61 : Cond.selects RX10 yX10_usesOf yX10_usesOf ∈ GW := gw_pr (i := 61) (q := (yX10_usesOf, 66)) rfl
theorem wp_62 : Cond.selects RX10 yX10_layConflicts yX10_layConflicts ∈ GW := gw_pr (i := 62) (q := (yX10_layConflicts, 66)) rfl
theorem wp_63 : Cond.selects RX10 yX10_conflict yX10_conflict ∈ GW := gw_pr (i := 63) (q := (yX10_conflict, 66)) rfl
theorem wp_64 : Cond.selects RX10 yX10_layLoops yX10_layLoops ∈ GW := gw_pr (i := 64) (q := (yX10_layLoops, 66)) rfl
theorem wp_65 : Cond.selects RX10 yX10_reached yX10_reached ∈ GW := gw_pr (i := 65) (q := (yX10_reached, 66)) rfl
theorem wp_66 : Cond.selects RX10 yX10_isWithin yX10_isWithin ∈ GW := gw_pr (i := 66) (q := (yX10_isWithin, 66)) rfl
theorem wp_67 : Cond.selects RX10 yX10_memoryCost yX10_memoryCost ∈ GW := gw_pr (i := 67) (q := (yX10_memoryCost, 66)) rfl
theorem wp_68 : Cond.selects RX10 yX10_all yX10_all ∈ GW := gw_pr (i := 68) (q := (yX10_all, 66)) rfl
theorem wp_69 : Cond.selects RX10 yX10_sumOfUses yX10_sumOfUses ∈ GW := gw_pr (i := 69) (q := (yX10_sumOfUses, 66)) rfl
theorem wp_70 : Cond.selects RX10 yX10_sumOfTargets yX10_sumOfTargets ∈ GW := gw_pr (i := 70) (q := (yX10_sumOfTargets, 66)) rfl
theorem wp_71 : Cond.selects RX10 yX10_constantRow yX10_constantRow ∈ GW := gw_pr (i := 71) (q := (yX10_constantRow, 66)) rfl
theorem wp_72 : Cond.selects RX10 yX10_begins yX10_begins ∈ GW := gw_pr (i := 72) (q := (yX10_begins, 66)) rfl
theorem wp_73 : Cond.selects RX10 yX10_isUsed yX10_isUsed ∈ GW := gw_pr (i := 73) (q := (yX10_isUsed, 66)) rfl
theorem wp_74 : Cond.selects RX10 yX10_colours yX10_colours ∈ GW := gw_pr (i := 74) (q := (yX10_colours, 66)) rfl
theorem wp_75 : Cond.selects RX10 yX10_lowest yX10_lowest ∈ GW := gw_pr (i := 75) (q := (yX10_lowest, 66)) rfl
theorem wp_76 : Cond.selects RX10 yX10_putsOut yX10_putsOut ∈ GW := gw_pr (i := 76) (q := (yX10_putsOut, 66)) rfl
theorem wp_77 : Cond.selects RX10 yX10_costOut yX10_costOut ∈ GW := gw_pr (i := 77) (q := (yX10_costOut, 66)) rfl
theorem wp_78 : Cond.selects RX10 yX10_promotesAll yX10_promotesAll ∈ GW := gw_pr (i := 78) (q := (yX10_promotesAll, 66)) rfl
theorem wp_79 : Cond.selects RX10 yX10_promotes yX10_promotes ∈ GW := gw_pr (i := 79) (q := (yX10_promotes, 66)) rfl
theorem wp_80 : Cond.selects RX10 yX10_gain yX10_gain ∈ GW := gw_pr (i := 80) (q := (yX10_gain, 66)) rfl
theorem wp_81 : Cond.selects RX10 yX10_targetsIn yX10_targetsIn ∈ GW := gw_pr (i := 81) (q := (yX10_targetsIn, 66)) rfl
theorem wp_82 : Cond.selects RX10 yX10_colourIn yX10_colourIn ∈ GW := gw_pr (i := 82) (q := (yX10_colourIn, 66)) rfl
theorem wp_83 : Cond.selects RX10 yX10_presentIn yX10_presentIn ∈ GW := gw_pr (i := 83) (q := (yX10_presentIn, 66)) rfl
theorem wp_84 : Cond.selects RX10 yX10_homes yX10_homes ∈ GW := gw_pr (i := 84) (q := (yX10_homes, 66)) rfl
theorem wp_85 : Cond.selects RX10 yX10_promotions yX10_promotions ∈ GW := gw_pr (i := 85) (q := (yX10_promotions, 66)) rfl
theorem wp_86 : Cond.selects RX10 yX10_costs yX10_costs ∈ GW := gw_pr (i := 86) (q := (yX10_costs, 66)) rfl
theorem wp_87 : Cond.selects RX10 yX10_outcome yX10_outcome ∈ GW := gw_pr (i := 87) (q := (yX10_outcome, 66)) rfl
theorem wp_88 : Cond.selects RX10 yX10_executes yX10_executes ∈ GW := gw_pr (i := 88) (q := (yX10_executes, 66)) rfl
theorem wp_89 : Cond.selects RX10 yX10_enters yX10_enters ∈ GW := gw_pr (i := 89) (q := (yX10_enters, 66)) rfl
theorem wp_90 : Cond.selects RX10 yX10_goesInto yX10_goesInto ∈ GW := gw_pr (i := 90) (q := (yX10_goesInto, 66)) rfl
theorem wp_91 : Cond.selects RX10 yX10_does yX10_does ∈ GW := gw_pr (i := 91) (q := (yX10_does, 66)) rfl
theorem wp_92 : Cond.selects RX10 yX10_puts yX10_puts ∈ GW := gw_pr (i := 92) (q := (yX10_puts, 66)) rfl
theorem wp_93 : Cond.selects RX10 yX10_colourOf yX10_colourOf ∈ GW := gw_pr (i := 93) (q := (yX10_colourOf, 66)) rfl
theorem wp_94 : Cond.selects RX10 yX10_holds yX10_holds ∈ GW := gw_pr (i := 94) (q := (yX10_holds, 66)) rfl
theorem wp_95 : Cond.selects RX10 yX10_held yX10_held ∈ GW := gw_pr (i := 95) (q := (yX10_held, 66)) rfl
theorem wp_96 : Cond.selects RX10 yX10_got yX10_got ∈ GW := gw_pr (i := 96) (q := (yX10_got, 66)) rfl
theorem wp_97 : Cond.selects RX10 yX10_readOne yX10_readOne ∈ GW := gw_pr (i := 97) (q := (yX10_readOne, 66)) rfl
theorem wp_98 : Cond.selects RX10 yX10_sign yX10_sign ∈ GW := gw_pr (i := 98) (q := (yX10_sign, 66)) rfl
theorem wp_99 : Cond.selects RX10 yX10_isNext yX10_isNext ∈ GW := gw_pr (i := 99) (q := (yX10_isNext, 66)) rfl
theorem wp_100 : Cond.selects RX10 yX10_readGo yX10_readGo ∈ GW := gw_pr (i := 100) (q := (yX10_readGo, 66)) rfl
theorem wp_101 : Cond.selects RX10 yX10_blank yX10_blank ∈ GW := gw_pr (i := 101) (q := (yX10_blank, 66)) rfl
theorem wp_102 : Cond.selects RX10 yX10_takes yX10_takes ∈ GW := gw_pr (i := 102) (q := (yX10_takes, 66)) rfl
theorem wp_103 : Cond.selects RX10 yX10_blockDigit yX10_blockDigit ∈ GW := gw_pr (i := 103) (q := (yX10_blockDigit, 66)) rfl
theorem wp_104 : Cond.selects RX10 yX10_readIf yX10_readIf ∈ GW := gw_pr (i := 104) (q := (yX10_readIf, 66)) rfl
theorem wp_105 : Cond.selects RX10 yX10_variable yX10_variable ∈ GW := gw_pr (i := 105) (q := (yX10_variable, 66)) rfl
theorem wp_106 : Cond.selects RX10 yX10_readStop yX10_readStop ∈ GW := gw_pr (i := 106) (q := (yX10_readStop, 66)) rfl
theorem wp_107 : Cond.selects RX10 yX10_readRow yX10_readRow ∈ GW := gw_pr (i := 107) (q := (yX10_readRow, 66)) rfl
theorem wp_108 : Cond.selects RX10 yX10_readNumber yX10_readNumber ∈ GW := gw_pr (i := 108) (q := (yX10_readNumber, 66)) rfl
